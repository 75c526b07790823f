/-! THE LAW'S CASES -/
theorem la_b {E : mt_E} {s : State} {b : Nat} (hE : E.2.2.2 = s.heap.size) (hbl : b < s.heap.size) : ¬ (mt_A E) b := by
  unfold mt_A
  rw [hE]
  exact Nat.not_le.mpr hbl
theorem la_n1 {i L : Nat} (hL : L ≤ 2560) (hi : i + 5 ≤ L) : vp_in (nI i + 1) L := by
  rw [show nI i + (1 : Int32) = nI (i + 1) from by rw [show (1 : Int32) = nI 1 from rfl, nI_add]]
  exact vp_in_nI (by omega) (by omega)
theorem la_n2 {i L : Nat} (hL : L ≤ 2560) (hi : i + 5 ≤ L) : vp_in (nI i + 2) L := by
  rw [show nI i + (2 : Int32) = nI (i + 2) from by rw [show (2 : Int32) = nI 2 from rfl, nI_add]]
  exact vp_in_nI (by omega) (by omega)
theorem la_n3 {i L : Nat} (hL : L ≤ 2560) (hi : i + 5 ≤ L) : vp_in (nI i + 3) L := by
  rw [show nI i + (3 : Int32) = nI (i + 3) from by rw [show (3 : Int32) = nI 3 from rfl, nI_add]]
  exact vp_in_nI (by omega) (by omega)
theorem la_n4 {i L : Nat} (hL : L ≤ 2560) (hi : i + 5 ≤ L) : vp_in (nI i + 4) L := by
  rw [show nI i + (4 : Int32) = nI (i + 4) from by rw [show (4 : Int32) = nI 4 from rfl, nI_add]]
  exact vp_in_nI (by omega) (by omega)
set_option maxHeartbeats 4000000 in
set_option maxRecDepth 100000 in
/-- feed -/
theorem la_0 {p : Program} {e : Env} {s : State} {mid : MethodId} {below : List Frame} {meth : Method} {c0 : Code} (l : Launch) {b L : Nat} {xs : Nat → Int32} (hL : L ≤ 2560) (C0 : lw_At p s mid meth c0 b L xs) {E : mt_E} (hE : E.2.2.2 = s.heap.size) (hI : mt_I E s) {i : Nat} (hi : i + 5 ≤ L) {M : mt_M} {u : mt_U} (hM : rl M) {H : Heap} {locs : List Loc} {ls : Array Slot} (hH : mt_H E M u H) (hS : va_S (mt_A E) s.heap H locs) (hl : lv_has ls 4 [(3, .int (nI i)), (0, .ref b), (1, .ref (E.2.1 0)), (2, .ref (E.2.1 147))]) (kk : ∀ (M' : mt_M) (u' : mt_U) (H' : Heap) (locs' : List Loc), rl M' → mt_H E M' u' H' → va_S (mt_A E) s.heap H' locs' → W p l e room_1 s mid #[Value.ref b] below meth c0 H' locs' 164 2388 (lw_Z below #[Value.ref b] s) (F0 mid 1661 ls [])) : W p l e room_1 s mid #[Value.ref b] below meth c0 H locs 164 2388 (lw_Z below #[Value.ref b] s) (F0 mid 260 ls []) := by
  obtain ⟨hx, hb, hr, hml, hown, hts0, hX, hbl, hlocks, hgv⟩ := id C0
  have hown : s.vm.findClass RL = some mid.cls := hown
  have hts : ∀ w ∈ wsL_law, w.before #[Value.ref b] s = true := fun w h => hts0 w (wsL_law_in w h)
  have hbA : ¬ (mt_A E) b := la_b hE hbl
  have n1 : vp_in (nI i + 1) L := la_n1 hL hi
  obtain ⟨r, M1, M2, f1, f2, h2⟩ := cl_feed (xs (nI i + 1).toNatClampNeg) M hM
  refine lv_aload_n hx hb dL_law_260 rfl (lv_at hl 2 rfl) ?_
  refine lv_aload_n hx hb dL_law_261 rfl (lv_at hl 1 rfl) ?_
  refine lv_iload_n hx hb dL_law_262 rfl (lv_at hl 0 rfl) ?_
  refine lv_iconst (v := 1) hx hb dL_law_263 (by decide) ?_
  refine lv_iadd hx hb dL_law_264 ?_
  refine va_sld hx hb hX hbl hbA hS n1 dL_law_265 ?_
  refine mt_goi (mt_runV (i := 0) (As := [.int (xs (nI i + 1).toNatClampNeg)]) (rest := []) ⟨hx, hb, hml, hown, hts⟩ hI hH (c_X11_feed l E (xs (nI i + 1).toNatClampNeg) M u _ _ f1) (cwV 1 hts gL_law_X11_feed rfl rfl rfl (by decide +kernel) ⟨Nat.le_of_ble_eq_true rfl, Nat.le_of_ble_eq_true rfl⟩) mt_T0 rfl rfl hl.1 rfl (Nat.le_of_ble_eq_true rfl) dL_law_266 ⟨Nat.le_of_ble_eq_true rfl, Nat.le_of_ble_eq_true rfl⟩) hS (fun H locs hH hS => ?_)
  refine lv_aload_n hx hb dL_law_269 rfl (lv_at hl 3 rfl) ?_
  refine lv_aload_n hx hb dL_law_270 rfl (lv_at hl 1 rfl) ?_
  refine lv_iload_n hx hb dL_law_271 rfl (lv_at hl 0 rfl) ?_
  refine lv_iconst (v := 1) hx hb dL_law_272 (by decide) ?_
  refine lv_iadd hx hb dL_law_273 ?_
  refine va_sld hx hb hX hbl hbA hS n1 dL_law_274 ?_
  refine mt_goi (mt_runV (i := 147) (As := [.int (xs (nI i + 1).toNatClampNeg)]) (rest := [.int r]) ⟨hx, hb, hml, hown, hts⟩ hI hH (c_X12_feed l E (xs (nI i + 1).toNatClampNeg) M1 u _ _ f2) (cwV 1 hts gL_law_X12_feed rfl rfl rfl (by decide +kernel) ⟨Nat.le_of_ble_eq_true rfl, Nat.le_of_ble_eq_true rfl⟩) mt_T147 rfl rfl hl.1 rfl (Nat.le_of_ble_eq_true rfl) dL_law_275 ⟨Nat.le_of_ble_eq_true rfl, Nat.le_of_ble_eq_true rfl⟩) hS (fun H locs hH hS => ?_)
  exact lv_icmp_eq (tgt := 1661) hx hb dL_law_278 (by decide) (fun _ => kk M2 u H locs h2 hH hS) (fun c9 => absurd rfl c9)
set_option maxHeartbeats 4000000 in
set_option maxRecDepth 100000 in
/-- house -/
theorem la_1 {p : Program} {e : Env} {s : State} {mid : MethodId} {below : List Frame} {meth : Method} {c0 : Code} (l : Launch) {b L : Nat} {xs : Nat → Int32} (hL : L ≤ 2560) (C0 : lw_At p s mid meth c0 b L xs) {E : mt_E} (hE : E.2.2.2 = s.heap.size) (hI : mt_I E s) {i : Nat} (hi : i + 5 ≤ L) {M : mt_M} {u : mt_U} (hM : rl M) {H : Heap} {locs : List Loc} {ls : Array Slot} (hH : mt_H E M u H) (hS : va_S (mt_A E) s.heap H locs) (hl : lv_has ls 4 [(3, .int (nI i)), (0, .ref b), (1, .ref (E.2.1 0)), (2, .ref (E.2.1 147))]) (kk : ∀ (M' : mt_M) (u' : mt_U) (H' : Heap) (locs' : List Loc), rl M' → mt_H E M' u' H' → va_S (mt_A E) s.heap H' locs' → W p l e room_1 s mid #[Value.ref b] below meth c0 H' locs' 164 2388 (lw_Z below #[Value.ref b] s) (F0 mid 1661 ls [])) : W p l e room_1 s mid #[Value.ref b] below meth c0 H locs 164 2388 (lw_Z below #[Value.ref b] s) (F0 mid 283 ls []) := by
  obtain ⟨hx, hb, hr, hml, hown, hts0, hX, hbl, hlocks, hgv⟩ := id C0
  have hown : s.vm.findClass RL = some mid.cls := hown
  have hts : ∀ w ∈ wsL_law, w.before #[Value.ref b] s = true := fun w h => hts0 w (wsL_law_in w h)
  have hbA : ¬ (mt_A E) b := la_b hE hbl
  obtain ⟨r, M1, M2, f1, f2, h2⟩ := cl_house  M hM
  refine lv_aload_n hx hb dL_law_283 rfl (lv_at hl 2 rfl) ?_
  refine mt_goi (mt_runV (i := 0) (As := []) (rest := []) ⟨hx, hb, hml, hown, hts⟩ hI hH (c_X11_house l E  M u _ _ f1) (cwV 0 hts gL_law_X11_house rfl rfl rfl (by decide +kernel) ⟨Nat.le_of_ble_eq_true rfl, Nat.le_of_ble_eq_true rfl⟩) mt_T0 rfl rfl hl.1 rfl (Nat.le_of_ble_eq_true rfl) dL_law_284 ⟨Nat.le_of_ble_eq_true rfl, Nat.le_of_ble_eq_true rfl⟩) hS (fun H locs hH hS => ?_)
  refine lv_aload_n hx hb dL_law_287 rfl (lv_at hl 3 rfl) ?_
  refine mt_goi (mt_runV (i := 147) (As := []) (rest := [.int r]) ⟨hx, hb, hml, hown, hts⟩ hI hH (c_X12_house l E  M1 u _ _ f2) (cwV 0 hts gL_law_X12_house rfl rfl rfl (by decide +kernel) ⟨Nat.le_of_ble_eq_true rfl, Nat.le_of_ble_eq_true rfl⟩) mt_T147 rfl rfl hl.1 rfl (Nat.le_of_ble_eq_true rfl) dL_law_288 ⟨Nat.le_of_ble_eq_true rfl, Nat.le_of_ble_eq_true rfl⟩) hS (fun H locs hH hS => ?_)
  exact lv_icmp_eq (tgt := 1661) hx hb dL_law_291 (by decide) (fun _ => kk M2 u H locs h2 hH hS) (fun c9 => absurd rfl c9)
set_option maxHeartbeats 4000000 in
set_option maxRecDepth 100000 in
/-- thingOf -/
theorem la_2 {p : Program} {e : Env} {s : State} {mid : MethodId} {below : List Frame} {meth : Method} {c0 : Code} (l : Launch) {b L : Nat} {xs : Nat → Int32} (hL : L ≤ 2560) (C0 : lw_At p s mid meth c0 b L xs) {E : mt_E} (hE : E.2.2.2 = s.heap.size) (hI : mt_I E s) {i : Nat} (hi : i + 5 ≤ L) {M : mt_M} {u : mt_U} (hM : rl M) {H : Heap} {locs : List Loc} {ls : Array Slot} (hH : mt_H E M u H) (hS : va_S (mt_A E) s.heap H locs) (hl : lv_has ls 4 [(3, .int (nI i)), (0, .ref b), (1, .ref (E.2.1 0)), (2, .ref (E.2.1 147))]) (kk : ∀ (M' : mt_M) (u' : mt_U) (H' : Heap) (locs' : List Loc), rl M' → mt_H E M' u' H' → va_S (mt_A E) s.heap H' locs' → W p l e room_1 s mid #[Value.ref b] below meth c0 H' locs' 164 2388 (lw_Z below #[Value.ref b] s) (F0 mid 1661 ls [])) : W p l e room_1 s mid #[Value.ref b] below meth c0 H locs 164 2388 (lw_Z below #[Value.ref b] s) (F0 mid 296 ls []) := by
  obtain ⟨hx, hb, hr, hml, hown, hts0, hX, hbl, hlocks, hgv⟩ := id C0
  have hown : s.vm.findClass RL = some mid.cls := hown
  have hts : ∀ w ∈ wsL_law, w.before #[Value.ref b] s = true := fun w h => hts0 w (wsL_law_in w h)
  have hbA : ¬ (mt_A E) b := la_b hE hbl
  have n1 : vp_in (nI i + 1) L := la_n1 hL hi
  have n2 : vp_in (nI i + 2) L := la_n2 hL hi
  obtain ⟨r, M1, M2, f1, f2, h2⟩ := cl_thingOf (xs (nI i + 1).toNatClampNeg) (xs (nI i + 2).toNatClampNeg) M hM
  refine lv_aload_n hx hb dL_law_296 rfl (lv_at hl 2 rfl) ?_
  refine lv_aload_n hx hb dL_law_297 rfl (lv_at hl 1 rfl) ?_
  refine lv_iload_n hx hb dL_law_298 rfl (lv_at hl 0 rfl) ?_
  refine lv_iconst (v := 1) hx hb dL_law_299 (by decide) ?_
  refine lv_iadd hx hb dL_law_300 ?_
  refine va_sld hx hb hX hbl hbA hS n1 dL_law_301 ?_
  refine lv_aload_n hx hb dL_law_302 rfl (lv_at hl 1 rfl) ?_
  refine lv_iload_n hx hb dL_law_303 rfl (lv_at hl 0 rfl) ?_
  refine lv_iconst (v := 2) hx hb dL_law_304 (by decide) ?_
  refine lv_iadd hx hb dL_law_305 ?_
  refine va_sld hx hb hX hbl hbA hS n2 dL_law_306 ?_
  refine mt_goi (mt_runV (i := 0) (As := [.int (xs (nI i + 1).toNatClampNeg), .int (xs (nI i + 2).toNatClampNeg)]) (rest := []) ⟨hx, hb, hml, hown, hts⟩ hI hH (c_X11_thingOf l E (xs (nI i + 1).toNatClampNeg) (xs (nI i + 2).toNatClampNeg) M u _ _ f1) (cwV 2 hts gL_law_X11_thingOf rfl rfl rfl (by decide +kernel) ⟨Nat.le_of_ble_eq_true rfl, Nat.le_of_ble_eq_true rfl⟩) mt_T0 rfl rfl hl.1 rfl (Nat.le_of_ble_eq_true rfl) dL_law_307 ⟨Nat.le_of_ble_eq_true rfl, Nat.le_of_ble_eq_true rfl⟩) hS (fun H locs hH hS => ?_)
  refine lv_aload_n hx hb dL_law_310 rfl (lv_at hl 3 rfl) ?_
  refine lv_aload_n hx hb dL_law_311 rfl (lv_at hl 1 rfl) ?_
  refine lv_iload_n hx hb dL_law_312 rfl (lv_at hl 0 rfl) ?_
  refine lv_iconst (v := 1) hx hb dL_law_313 (by decide) ?_
  refine lv_iadd hx hb dL_law_314 ?_
  refine va_sld hx hb hX hbl hbA hS n1 dL_law_315 ?_
  refine lv_aload_n hx hb dL_law_316 rfl (lv_at hl 1 rfl) ?_
  refine lv_iload_n hx hb dL_law_317 rfl (lv_at hl 0 rfl) ?_
  refine lv_iconst (v := 2) hx hb dL_law_318 (by decide) ?_
  refine lv_iadd hx hb dL_law_319 ?_
  refine va_sld hx hb hX hbl hbA hS n2 dL_law_320 ?_
  refine mt_goi (mt_runV (i := 147) (As := [.int (xs (nI i + 1).toNatClampNeg), .int (xs (nI i + 2).toNatClampNeg)]) (rest := [.int r]) ⟨hx, hb, hml, hown, hts⟩ hI hH (c_X12_thingOf l E (xs (nI i + 1).toNatClampNeg) (xs (nI i + 2).toNatClampNeg) M1 u _ _ f2) (cwV 2 hts gL_law_X12_thingOf rfl rfl rfl (by decide +kernel) ⟨Nat.le_of_ble_eq_true rfl, Nat.le_of_ble_eq_true rfl⟩) mt_T147 rfl rfl hl.1 rfl (Nat.le_of_ble_eq_true rfl) dL_law_321 ⟨Nat.le_of_ble_eq_true rfl, Nat.le_of_ble_eq_true rfl⟩) hS (fun H locs hH hS => ?_)
  exact lv_icmp_eq (tgt := 1661) hx hb dL_law_324 (by decide) (fun _ => kk M2 u H locs h2 hH hS) (fun c9 => absurd rfl c9)
set_option maxHeartbeats 4000000 in
set_option maxRecDepth 100000 in
/-- thing -/
theorem la_3 {p : Program} {e : Env} {s : State} {mid : MethodId} {below : List Frame} {meth : Method} {c0 : Code} (l : Launch) {b L : Nat} {xs : Nat → Int32} (hL : L ≤ 2560) (C0 : lw_At p s mid meth c0 b L xs) {E : mt_E} (hE : E.2.2.2 = s.heap.size) (hI : mt_I E s) {i : Nat} (hi : i + 5 ≤ L) {M : mt_M} {u : mt_U} (hM : rl M) {H : Heap} {locs : List Loc} {ls : Array Slot} (hH : mt_H E M u H) (hS : va_S (mt_A E) s.heap H locs) (hl : lv_has ls 4 [(3, .int (nI i)), (0, .ref b), (1, .ref (E.2.1 0)), (2, .ref (E.2.1 147))]) (kk : ∀ (M' : mt_M) (u' : mt_U) (H' : Heap) (locs' : List Loc), rl M' → mt_H E M' u' H' → va_S (mt_A E) s.heap H' locs' → W p l e room_1 s mid #[Value.ref b] below meth c0 H' locs' 164 2388 (lw_Z below #[Value.ref b] s) (F0 mid 1661 ls [])) : W p l e room_1 s mid #[Value.ref b] below meth c0 H locs 164 2388 (lw_Z below #[Value.ref b] s) (F0 mid 329 ls []) := by
  obtain ⟨hx, hb, hr, hml, hown, hts0, hX, hbl, hlocks, hgv⟩ := id C0
  have hown : s.vm.findClass RL = some mid.cls := hown
  have hts : ∀ w ∈ wsL_law, w.before #[Value.ref b] s = true := fun w h => hts0 w (wsL_law_in w h)
  have hbA : ¬ (mt_A E) b := la_b hE hbl
  have n1 : vp_in (nI i + 1) L := la_n1 hL hi
  have n2 : vp_in (nI i + 2) L := la_n2 hL hi
  have n3 : vp_in (nI i + 3) L := la_n3 hL hi
  obtain ⟨r, M1, M2, f1, f2, h2⟩ := cl_thing (xs (nI i + 1).toNatClampNeg) (xs (nI i + 2).toNatClampNeg) (xs (nI i + 3).toNatClampNeg) M hM
  refine lv_aload_n hx hb dL_law_329 rfl (lv_at hl 2 rfl) ?_
  refine lv_aload_n hx hb dL_law_330 rfl (lv_at hl 1 rfl) ?_
  refine lv_iload_n hx hb dL_law_331 rfl (lv_at hl 0 rfl) ?_
  refine lv_iconst (v := 1) hx hb dL_law_332 (by decide) ?_
  refine lv_iadd hx hb dL_law_333 ?_
  refine va_sld hx hb hX hbl hbA hS n1 dL_law_334 ?_
  refine lv_aload_n hx hb dL_law_335 rfl (lv_at hl 1 rfl) ?_
  refine lv_iload_n hx hb dL_law_336 rfl (lv_at hl 0 rfl) ?_
  refine lv_iconst (v := 2) hx hb dL_law_337 (by decide) ?_
  refine lv_iadd hx hb dL_law_338 ?_
  refine va_sld hx hb hX hbl hbA hS n2 dL_law_339 ?_
  refine lv_aload_n hx hb dL_law_340 rfl (lv_at hl 1 rfl) ?_
  refine lv_iload_n hx hb dL_law_341 rfl (lv_at hl 0 rfl) ?_
  refine lv_iconst (v := 3) hx hb dL_law_342 (by decide) ?_
  refine lv_iadd hx hb dL_law_343 ?_
  refine va_sld hx hb hX hbl hbA hS n3 dL_law_344 ?_
  refine mt_goi (mt_runV (i := 0) (As := [.int (xs (nI i + 1).toNatClampNeg), .int (xs (nI i + 2).toNatClampNeg), .int (xs (nI i + 3).toNatClampNeg)]) (rest := []) ⟨hx, hb, hml, hown, hts⟩ hI hH (c_X11_thing l E (xs (nI i + 1).toNatClampNeg) (xs (nI i + 2).toNatClampNeg) (xs (nI i + 3).toNatClampNeg) M u _ _ f1) (cwV 3 hts gL_law_X11_thing rfl rfl rfl (by decide +kernel) ⟨Nat.le_of_ble_eq_true rfl, Nat.le_of_ble_eq_true rfl⟩) mt_T0 rfl rfl hl.1 rfl (Nat.le_of_ble_eq_true rfl) dL_law_345 ⟨Nat.le_of_ble_eq_true rfl, Nat.le_of_ble_eq_true rfl⟩) hS (fun H locs hH hS => ?_)
  refine lv_aload_n hx hb dL_law_348 rfl (lv_at hl 3 rfl) ?_
  refine lv_aload_n hx hb dL_law_349 rfl (lv_at hl 1 rfl) ?_
  refine lv_iload_n hx hb dL_law_350 rfl (lv_at hl 0 rfl) ?_
  refine lv_iconst (v := 1) hx hb dL_law_351 (by decide) ?_
  refine lv_iadd hx hb dL_law_352 ?_
  refine va_sld hx hb hX hbl hbA hS n1 dL_law_353 ?_
  refine lv_aload_n hx hb dL_law_354 rfl (lv_at hl 1 rfl) ?_
  refine lv_iload_n hx hb dL_law_355 rfl (lv_at hl 0 rfl) ?_
  refine lv_iconst (v := 2) hx hb dL_law_356 (by decide) ?_
  refine lv_iadd hx hb dL_law_357 ?_
  refine va_sld hx hb hX hbl hbA hS n2 dL_law_358 ?_
  refine lv_aload_n hx hb dL_law_359 rfl (lv_at hl 1 rfl) ?_
  refine lv_iload_n hx hb dL_law_360 rfl (lv_at hl 0 rfl) ?_
  refine lv_iconst (v := 3) hx hb dL_law_361 (by decide) ?_
  refine lv_iadd hx hb dL_law_362 ?_
  refine va_sld hx hb hX hbl hbA hS n3 dL_law_363 ?_
  refine mt_goi (mt_runV (i := 147) (As := [.int (xs (nI i + 1).toNatClampNeg), .int (xs (nI i + 2).toNatClampNeg), .int (xs (nI i + 3).toNatClampNeg)]) (rest := [.int r]) ⟨hx, hb, hml, hown, hts⟩ hI hH (c_X12_thing l E (xs (nI i + 1).toNatClampNeg) (xs (nI i + 2).toNatClampNeg) (xs (nI i + 3).toNatClampNeg) M1 u _ _ f2) (cwV 3 hts gL_law_X12_thing rfl rfl rfl (by decide +kernel) ⟨Nat.le_of_ble_eq_true rfl, Nat.le_of_ble_eq_true rfl⟩) mt_T147 rfl rfl hl.1 rfl (Nat.le_of_ble_eq_true rfl) dL_law_364 ⟨Nat.le_of_ble_eq_true rfl, Nat.le_of_ble_eq_true rfl⟩) hS (fun H locs hH hS => ?_)
  exact lv_icmp_eq (tgt := 1661) hx hb dL_law_367 (by decide) (fun _ => kk M2 u H locs h2 hH hS) (fun c9 => absurd rfl c9)
set_option maxHeartbeats 4000000 in
set_option maxRecDepth 100000 in
/-- stock -/
theorem la_4 {p : Program} {e : Env} {s : State} {mid : MethodId} {below : List Frame} {meth : Method} {c0 : Code} (l : Launch) {b L : Nat} {xs : Nat → Int32} (hL : L ≤ 2560) (C0 : lw_At p s mid meth c0 b L xs) {E : mt_E} (hE : E.2.2.2 = s.heap.size) (hI : mt_I E s) {i : Nat} (hi : i + 5 ≤ L) {M : mt_M} {u : mt_U} (hM : rl M) {H : Heap} {locs : List Loc} {ls : Array Slot} (hH : mt_H E M u H) (hS : va_S (mt_A E) s.heap H locs) (hl : lv_has ls 4 [(3, .int (nI i)), (0, .ref b), (1, .ref (E.2.1 0)), (2, .ref (E.2.1 147))]) (kk : ∀ (M' : mt_M) (u' : mt_U) (H' : Heap) (locs' : List Loc), rl M' → mt_H E M' u' H' → va_S (mt_A E) s.heap H' locs' → W p l e room_1 s mid #[Value.ref b] below meth c0 H' locs' 164 2388 (lw_Z below #[Value.ref b] s) (F0 mid 1661 ls [])) : W p l e room_1 s mid #[Value.ref b] below meth c0 H locs 164 2388 (lw_Z below #[Value.ref b] s) (F0 mid 372 ls []) := by
  obtain ⟨hx, hb, hr, hml, hown, hts0, hX, hbl, hlocks, hgv⟩ := id C0
  have hown : s.vm.findClass RL = some mid.cls := hown
  have hts : ∀ w ∈ wsL_law, w.before #[Value.ref b] s = true := fun w h => hts0 w (wsL_law_in w h)
  have hbA : ¬ (mt_A E) b := la_b hE hbl
  have n1 : vp_in (nI i + 1) L := la_n1 hL hi
  have n2 : vp_in (nI i + 2) L := la_n2 hL hi
  obtain ⟨r, M1, M2, f1, f2, h2⟩ := cl_stock (xs (nI i + 1).toNatClampNeg) (xs (nI i + 2).toNatClampNeg) M hM
  refine lv_aload_n hx hb dL_law_372 rfl (lv_at hl 2 rfl) ?_
  refine lv_aload_n hx hb dL_law_373 rfl (lv_at hl 1 rfl) ?_
  refine lv_iload_n hx hb dL_law_374 rfl (lv_at hl 0 rfl) ?_
  refine lv_iconst (v := 1) hx hb dL_law_375 (by decide) ?_
  refine lv_iadd hx hb dL_law_376 ?_
  refine va_sld hx hb hX hbl hbA hS n1 dL_law_377 ?_
  refine lv_aload_n hx hb dL_law_378 rfl (lv_at hl 1 rfl) ?_
  refine lv_iload_n hx hb dL_law_379 rfl (lv_at hl 0 rfl) ?_
  refine lv_iconst (v := 2) hx hb dL_law_380 (by decide) ?_
  refine lv_iadd hx hb dL_law_381 ?_
  refine va_sld hx hb hX hbl hbA hS n2 dL_law_382 ?_
  refine mt_goi (mt_runV (i := 0) (As := [.int (xs (nI i + 1).toNatClampNeg), .int (xs (nI i + 2).toNatClampNeg)]) (rest := []) ⟨hx, hb, hml, hown, hts⟩ hI hH (c_X11_stock l E (xs (nI i + 1).toNatClampNeg) (xs (nI i + 2).toNatClampNeg) M u _ _ f1) (cwV 2 hts gL_law_X11_stock rfl rfl rfl (by decide +kernel) ⟨Nat.le_of_ble_eq_true rfl, Nat.le_of_ble_eq_true rfl⟩) mt_T0 rfl rfl hl.1 rfl (Nat.le_of_ble_eq_true rfl) dL_law_383 ⟨Nat.le_of_ble_eq_true rfl, Nat.le_of_ble_eq_true rfl⟩) hS (fun H locs hH hS => ?_)
  refine lv_aload_n hx hb dL_law_386 rfl (lv_at hl 3 rfl) ?_
  refine lv_aload_n hx hb dL_law_387 rfl (lv_at hl 1 rfl) ?_
  refine lv_iload_n hx hb dL_law_388 rfl (lv_at hl 0 rfl) ?_
  refine lv_iconst (v := 1) hx hb dL_law_389 (by decide) ?_
  refine lv_iadd hx hb dL_law_390 ?_
  refine va_sld hx hb hX hbl hbA hS n1 dL_law_391 ?_
  refine lv_aload_n hx hb dL_law_392 rfl (lv_at hl 1 rfl) ?_
  refine lv_iload_n hx hb dL_law_393 rfl (lv_at hl 0 rfl) ?_
  refine lv_iconst (v := 2) hx hb dL_law_394 (by decide) ?_
  refine lv_iadd hx hb dL_law_395 ?_
  refine va_sld hx hb hX hbl hbA hS n2 dL_law_396 ?_
  refine mt_goi (mt_runV (i := 147) (As := [.int (xs (nI i + 1).toNatClampNeg), .int (xs (nI i + 2).toNatClampNeg)]) (rest := [.int r]) ⟨hx, hb, hml, hown, hts⟩ hI hH (c_X12_stock l E (xs (nI i + 1).toNatClampNeg) (xs (nI i + 2).toNatClampNeg) M1 u _ _ f2) (cwV 2 hts gL_law_X12_stock rfl rfl rfl (by decide +kernel) ⟨Nat.le_of_ble_eq_true rfl, Nat.le_of_ble_eq_true rfl⟩) mt_T147 rfl rfl hl.1 rfl (Nat.le_of_ble_eq_true rfl) dL_law_397 ⟨Nat.le_of_ble_eq_true rfl, Nat.le_of_ble_eq_true rfl⟩) hS (fun H locs hH hS => ?_)
  exact lv_icmp_eq (tgt := 1661) hx hb dL_law_400 (by decide) (fun _ => kk M2 u H locs h2 hH hS) (fun c9 => absurd rfl c9)
set_option maxHeartbeats 4000000 in
set_option maxRecDepth 100000 in
/-- lineOf -/
theorem la_5 {p : Program} {e : Env} {s : State} {mid : MethodId} {below : List Frame} {meth : Method} {c0 : Code} (l : Launch) {b L : Nat} {xs : Nat → Int32} (hL : L ≤ 2560) (C0 : lw_At p s mid meth c0 b L xs) {E : mt_E} (hE : E.2.2.2 = s.heap.size) (hI : mt_I E s) {i : Nat} (hi : i + 5 ≤ L) {M : mt_M} {u : mt_U} (hM : rl M) {H : Heap} {locs : List Loc} {ls : Array Slot} (hH : mt_H E M u H) (hS : va_S (mt_A E) s.heap H locs) (hl : lv_has ls 4 [(3, .int (nI i)), (0, .ref b), (1, .ref (E.2.1 0)), (2, .ref (E.2.1 147))]) (kk : ∀ (M' : mt_M) (u' : mt_U) (H' : Heap) (locs' : List Loc), rl M' → mt_H E M' u' H' → va_S (mt_A E) s.heap H' locs' → W p l e room_1 s mid #[Value.ref b] below meth c0 H' locs' 164 2388 (lw_Z below #[Value.ref b] s) (F0 mid 1661 ls [])) : W p l e room_1 s mid #[Value.ref b] below meth c0 H locs 164 2388 (lw_Z below #[Value.ref b] s) (F0 mid 405 ls []) := by
  obtain ⟨hx, hb, hr, hml, hown, hts0, hX, hbl, hlocks, hgv⟩ := id C0
  have hown : s.vm.findClass RL = some mid.cls := hown
  have hts : ∀ w ∈ wsL_law, w.before #[Value.ref b] s = true := fun w h => hts0 w (wsL_law_in w h)
  have hbA : ¬ (mt_A E) b := la_b hE hbl
  have n1 : vp_in (nI i + 1) L := la_n1 hL hi
  have n2 : vp_in (nI i + 2) L := la_n2 hL hi
  have n3 : vp_in (nI i + 3) L := la_n3 hL hi
  obtain ⟨r, M1, M2, f1, f2, h2⟩ := cl_lineOf (xs (nI i + 1).toNatClampNeg) (xs (nI i + 2).toNatClampNeg) (xs (nI i + 3).toNatClampNeg) M hM
  refine lv_aload_n hx hb dL_law_405 rfl (lv_at hl 2 rfl) ?_
  refine lv_aload_n hx hb dL_law_406 rfl (lv_at hl 1 rfl) ?_
  refine lv_iload_n hx hb dL_law_407 rfl (lv_at hl 0 rfl) ?_
  refine lv_iconst (v := 1) hx hb dL_law_408 (by decide) ?_
  refine lv_iadd hx hb dL_law_409 ?_
  refine va_sld hx hb hX hbl hbA hS n1 dL_law_410 ?_
  refine lv_aload_n hx hb dL_law_411 rfl (lv_at hl 1 rfl) ?_
  refine lv_iload_n hx hb dL_law_412 rfl (lv_at hl 0 rfl) ?_
  refine lv_iconst (v := 2) hx hb dL_law_413 (by decide) ?_
  refine lv_iadd hx hb dL_law_414 ?_
  refine va_sld hx hb hX hbl hbA hS n2 dL_law_415 ?_
  refine lv_aload_n hx hb dL_law_416 rfl (lv_at hl 1 rfl) ?_
  refine lv_iload_n hx hb dL_law_417 rfl (lv_at hl 0 rfl) ?_
  refine lv_iconst (v := 3) hx hb dL_law_418 (by decide) ?_
  refine lv_iadd hx hb dL_law_419 ?_
  refine va_sld hx hb hX hbl hbA hS n3 dL_law_420 ?_
  refine mt_goi (mt_runV (i := 0) (As := [.int (xs (nI i + 1).toNatClampNeg), .int (xs (nI i + 2).toNatClampNeg), .int (xs (nI i + 3).toNatClampNeg)]) (rest := []) ⟨hx, hb, hml, hown, hts⟩ hI hH (c_X11_lineOf l E (xs (nI i + 1).toNatClampNeg) (xs (nI i + 2).toNatClampNeg) (xs (nI i + 3).toNatClampNeg) M u _ _ f1) (cwV 3 hts gL_law_X11_lineOf rfl rfl rfl (by decide +kernel) ⟨Nat.le_of_ble_eq_true rfl, Nat.le_of_ble_eq_true rfl⟩) mt_T0 rfl rfl hl.1 rfl (Nat.le_of_ble_eq_true rfl) dL_law_421 ⟨Nat.le_of_ble_eq_true rfl, Nat.le_of_ble_eq_true rfl⟩) hS (fun H locs hH hS => ?_)
  refine lv_aload_n hx hb dL_law_424 rfl (lv_at hl 3 rfl) ?_
  refine lv_aload_n hx hb dL_law_425 rfl (lv_at hl 1 rfl) ?_
  refine lv_iload_n hx hb dL_law_426 rfl (lv_at hl 0 rfl) ?_
  refine lv_iconst (v := 1) hx hb dL_law_427 (by decide) ?_
  refine lv_iadd hx hb dL_law_428 ?_
  refine va_sld hx hb hX hbl hbA hS n1 dL_law_429 ?_
  refine lv_aload_n hx hb dL_law_430 rfl (lv_at hl 1 rfl) ?_
  refine lv_iload_n hx hb dL_law_431 rfl (lv_at hl 0 rfl) ?_
  refine lv_iconst (v := 2) hx hb dL_law_432 (by decide) ?_
  refine lv_iadd hx hb dL_law_433 ?_
  refine va_sld hx hb hX hbl hbA hS n2 dL_law_434 ?_
  refine lv_aload_n hx hb dL_law_435 rfl (lv_at hl 1 rfl) ?_
  refine lv_iload_n hx hb dL_law_436 rfl (lv_at hl 0 rfl) ?_
  refine lv_iconst (v := 3) hx hb dL_law_437 (by decide) ?_
  refine lv_iadd hx hb dL_law_438 ?_
  refine va_sld hx hb hX hbl hbA hS n3 dL_law_439 ?_
  refine mt_goi (mt_runV (i := 147) (As := [.int (xs (nI i + 1).toNatClampNeg), .int (xs (nI i + 2).toNatClampNeg), .int (xs (nI i + 3).toNatClampNeg)]) (rest := [.int r]) ⟨hx, hb, hml, hown, hts⟩ hI hH (c_X12_lineOf l E (xs (nI i + 1).toNatClampNeg) (xs (nI i + 2).toNatClampNeg) (xs (nI i + 3).toNatClampNeg) M1 u _ _ f2) (cwV 3 hts gL_law_X12_lineOf rfl rfl rfl (by decide +kernel) ⟨Nat.le_of_ble_eq_true rfl, Nat.le_of_ble_eq_true rfl⟩) mt_T147 rfl rfl hl.1 rfl (Nat.le_of_ble_eq_true rfl) dL_law_440 ⟨Nat.le_of_ble_eq_true rfl, Nat.le_of_ble_eq_true rfl⟩) hS (fun H locs hH hS => ?_)
  exact lv_icmp_eq (tgt := 1661) hx hb dL_law_443 (by decide) (fun _ => kk M2 u H locs h2 hH hS) (fun c9 => absurd rfl c9)
set_option maxHeartbeats 4000000 in
set_option maxRecDepth 100000 in
/-- writes -/
theorem la_6 {p : Program} {e : Env} {s : State} {mid : MethodId} {below : List Frame} {meth : Method} {c0 : Code} (l : Launch) {b L : Nat} {xs : Nat → Int32} (hL : L ≤ 2560) (C0 : lw_At p s mid meth c0 b L xs) {E : mt_E} (hE : E.2.2.2 = s.heap.size) (hI : mt_I E s) {i : Nat} (hi : i + 5 ≤ L) {M : mt_M} {u : mt_U} (hM : rl M) {H : Heap} {locs : List Loc} {ls : Array Slot} (hH : mt_H E M u H) (hS : va_S (mt_A E) s.heap H locs) (hl : lv_has ls 4 [(3, .int (nI i)), (0, .ref b), (1, .ref (E.2.1 0)), (2, .ref (E.2.1 147))]) (kk : ∀ (M' : mt_M) (u' : mt_U) (H' : Heap) (locs' : List Loc), rl M' → mt_H E M' u' H' → va_S (mt_A E) s.heap H' locs' → W p l e room_1 s mid #[Value.ref b] below meth c0 H' locs' 164 2388 (lw_Z below #[Value.ref b] s) (F0 mid 1661 ls [])) : W p l e room_1 s mid #[Value.ref b] below meth c0 H locs 164 2388 (lw_Z below #[Value.ref b] s) (F0 mid 448 ls []) := by
  obtain ⟨hx, hb, hr, hml, hown, hts0, hX, hbl, hlocks, hgv⟩ := id C0
  have hown : s.vm.findClass RL = some mid.cls := hown
  have hts : ∀ w ∈ wsL_law, w.before #[Value.ref b] s = true := fun w h => hts0 w (wsL_law_in w h)
  have hbA : ¬ (mt_A E) b := la_b hE hbl
  have n1 : vp_in (nI i + 1) L := la_n1 hL hi
  have n2 : vp_in (nI i + 2) L := la_n2 hL hi
  obtain ⟨r, M1, M2, f1, f2, h2⟩ := cl_writes (xs (nI i + 1).toNatClampNeg) (xs (nI i + 2).toNatClampNeg) M hM
  refine lv_aload_n hx hb dL_law_448 rfl (lv_at hl 2 rfl) ?_
  refine lv_aload_n hx hb dL_law_449 rfl (lv_at hl 1 rfl) ?_
  refine lv_iload_n hx hb dL_law_450 rfl (lv_at hl 0 rfl) ?_
  refine lv_iconst (v := 1) hx hb dL_law_451 (by decide) ?_
  refine lv_iadd hx hb dL_law_452 ?_
  refine va_sld hx hb hX hbl hbA hS n1 dL_law_453 ?_
  refine lv_aload_n hx hb dL_law_454 rfl (lv_at hl 1 rfl) ?_
  refine lv_iload_n hx hb dL_law_455 rfl (lv_at hl 0 rfl) ?_
  refine lv_iconst (v := 2) hx hb dL_law_456 (by decide) ?_
  refine lv_iadd hx hb dL_law_457 ?_
  refine va_sld hx hb hX hbl hbA hS n2 dL_law_458 ?_
  refine mt_goi (mt_runV (i := 0) (As := [.int (xs (nI i + 1).toNatClampNeg), .int (xs (nI i + 2).toNatClampNeg)]) (rest := []) ⟨hx, hb, hml, hown, hts⟩ hI hH (c_X11_writes l E (xs (nI i + 1).toNatClampNeg) (xs (nI i + 2).toNatClampNeg) M u _ _ f1) (cwV 2 hts gL_law_X11_writes rfl rfl rfl (by decide +kernel) ⟨Nat.le_of_ble_eq_true rfl, Nat.le_of_ble_eq_true rfl⟩) mt_T0 rfl rfl hl.1 rfl (Nat.le_of_ble_eq_true rfl) dL_law_459 ⟨Nat.le_of_ble_eq_true rfl, Nat.le_of_ble_eq_true rfl⟩) hS (fun H locs hH hS => ?_)
  refine lv_aload_n hx hb dL_law_462 rfl (lv_at hl 3 rfl) ?_
  refine lv_aload_n hx hb dL_law_463 rfl (lv_at hl 1 rfl) ?_
  refine lv_iload_n hx hb dL_law_464 rfl (lv_at hl 0 rfl) ?_
  refine lv_iconst (v := 1) hx hb dL_law_465 (by decide) ?_
  refine lv_iadd hx hb dL_law_466 ?_
  refine va_sld hx hb hX hbl hbA hS n1 dL_law_467 ?_
  refine lv_aload_n hx hb dL_law_468 rfl (lv_at hl 1 rfl) ?_
  refine lv_iload_n hx hb dL_law_469 rfl (lv_at hl 0 rfl) ?_
  refine lv_iconst (v := 2) hx hb dL_law_470 (by decide) ?_
  refine lv_iadd hx hb dL_law_471 ?_
  refine va_sld hx hb hX hbl hbA hS n2 dL_law_472 ?_
  refine mt_goi (mt_runV (i := 147) (As := [.int (xs (nI i + 1).toNatClampNeg), .int (xs (nI i + 2).toNatClampNeg)]) (rest := [.int r]) ⟨hx, hb, hml, hown, hts⟩ hI hH (c_X12_writes l E (xs (nI i + 1).toNatClampNeg) (xs (nI i + 2).toNatClampNeg) M1 u _ _ f2) (cwV 2 hts gL_law_X12_writes rfl rfl rfl (by decide +kernel) ⟨Nat.le_of_ble_eq_true rfl, Nat.le_of_ble_eq_true rfl⟩) mt_T147 rfl rfl hl.1 rfl (Nat.le_of_ble_eq_true rfl) dL_law_473 ⟨Nat.le_of_ble_eq_true rfl, Nat.le_of_ble_eq_true rfl⟩) hS (fun H locs hH hS => ?_)
  exact lv_icmp_eq (tgt := 1661) hx hb dL_law_476 (by decide) (fun _ => kk M2 u H locs h2 hH hS) (fun c9 => absurd rfl c9)
set_option maxHeartbeats 4000000 in
set_option maxRecDepth 100000 in
/-- ticks -/
theorem la_7 {p : Program} {e : Env} {s : State} {mid : MethodId} {below : List Frame} {meth : Method} {c0 : Code} (l : Launch) {b L : Nat} {xs : Nat → Int32} (hL : L ≤ 2560) (C0 : lw_At p s mid meth c0 b L xs) {E : mt_E} (hE : E.2.2.2 = s.heap.size) (hI : mt_I E s) {i : Nat} (hi : i + 5 ≤ L) {M : mt_M} {u : mt_U} (hM : rl M) {H : Heap} {locs : List Loc} {ls : Array Slot} (hH : mt_H E M u H) (hS : va_S (mt_A E) s.heap H locs) (hl : lv_has ls 4 [(3, .int (nI i)), (0, .ref b), (1, .ref (E.2.1 0)), (2, .ref (E.2.1 147))]) (kk : ∀ (M' : mt_M) (u' : mt_U) (H' : Heap) (locs' : List Loc), rl M' → mt_H E M' u' H' → va_S (mt_A E) s.heap H' locs' → W p l e room_1 s mid #[Value.ref b] below meth c0 H' locs' 164 2388 (lw_Z below #[Value.ref b] s) (F0 mid 1661 ls [])) : W p l e room_1 s mid #[Value.ref b] below meth c0 H locs 164 2388 (lw_Z below #[Value.ref b] s) (F0 mid 481 ls []) := by
  obtain ⟨hx, hb, hr, hml, hown, hts0, hX, hbl, hlocks, hgv⟩ := id C0
  have hown : s.vm.findClass RL = some mid.cls := hown
  have hts : ∀ w ∈ wsL_law, w.before #[Value.ref b] s = true := fun w h => hts0 w (wsL_law_in w h)
  have hbA : ¬ (mt_A E) b := la_b hE hbl
  have n1 : vp_in (nI i + 1) L := la_n1 hL hi
  have n2 : vp_in (nI i + 2) L := la_n2 hL hi
  obtain ⟨r, M1, M2, f1, f2, h2⟩ := cl_ticks (xs (nI i + 1).toNatClampNeg) (xs (nI i + 2).toNatClampNeg) M hM
  refine lv_aload_n hx hb dL_law_481 rfl (lv_at hl 2 rfl) ?_
  refine lv_aload_n hx hb dL_law_482 rfl (lv_at hl 1 rfl) ?_
  refine lv_iload_n hx hb dL_law_483 rfl (lv_at hl 0 rfl) ?_
  refine lv_iconst (v := 1) hx hb dL_law_484 (by decide) ?_
  refine lv_iadd hx hb dL_law_485 ?_
  refine va_sld hx hb hX hbl hbA hS n1 dL_law_486 ?_
  refine lv_aload_n hx hb dL_law_487 rfl (lv_at hl 1 rfl) ?_
  refine lv_iload_n hx hb dL_law_488 rfl (lv_at hl 0 rfl) ?_
  refine lv_iconst (v := 2) hx hb dL_law_489 (by decide) ?_
  refine lv_iadd hx hb dL_law_490 ?_
  refine va_sld hx hb hX hbl hbA hS n2 dL_law_491 ?_
  refine mt_goi (mt_runV (i := 0) (As := [.int (xs (nI i + 1).toNatClampNeg), .int (xs (nI i + 2).toNatClampNeg)]) (rest := []) ⟨hx, hb, hml, hown, hts⟩ hI hH (c_X11_ticks l E (xs (nI i + 1).toNatClampNeg) (xs (nI i + 2).toNatClampNeg) M u _ _ f1) (cwV 2 hts gL_law_X11_ticks rfl rfl rfl (by decide +kernel) ⟨Nat.le_of_ble_eq_true rfl, Nat.le_of_ble_eq_true rfl⟩) mt_T0 rfl rfl hl.1 rfl (Nat.le_of_ble_eq_true rfl) dL_law_492 ⟨Nat.le_of_ble_eq_true rfl, Nat.le_of_ble_eq_true rfl⟩) hS (fun H locs hH hS => ?_)
  refine lv_aload_n hx hb dL_law_495 rfl (lv_at hl 3 rfl) ?_
  refine lv_aload_n hx hb dL_law_496 rfl (lv_at hl 1 rfl) ?_
  refine lv_iload_n hx hb dL_law_497 rfl (lv_at hl 0 rfl) ?_
  refine lv_iconst (v := 1) hx hb dL_law_498 (by decide) ?_
  refine lv_iadd hx hb dL_law_499 ?_
  refine va_sld hx hb hX hbl hbA hS n1 dL_law_500 ?_
  refine lv_aload_n hx hb dL_law_501 rfl (lv_at hl 1 rfl) ?_
  refine lv_iload_n hx hb dL_law_502 rfl (lv_at hl 0 rfl) ?_
  refine lv_iconst (v := 2) hx hb dL_law_503 (by decide) ?_
  refine lv_iadd hx hb dL_law_504 ?_
  refine va_sld hx hb hX hbl hbA hS n2 dL_law_505 ?_
  refine mt_goi (mt_runV (i := 147) (As := [.int (xs (nI i + 1).toNatClampNeg), .int (xs (nI i + 2).toNatClampNeg)]) (rest := [.int r]) ⟨hx, hb, hml, hown, hts⟩ hI hH (c_X12_ticks l E (xs (nI i + 1).toNatClampNeg) (xs (nI i + 2).toNatClampNeg) M1 u _ _ f2) (cwV 2 hts gL_law_X12_ticks rfl rfl rfl (by decide +kernel) ⟨Nat.le_of_ble_eq_true rfl, Nat.le_of_ble_eq_true rfl⟩) mt_T147 rfl rfl hl.1 rfl (Nat.le_of_ble_eq_true rfl) dL_law_506 ⟨Nat.le_of_ble_eq_true rfl, Nat.le_of_ble_eq_true rfl⟩) hS (fun H locs hH hS => ?_)
  exact lv_icmp_eq (tgt := 1661) hx hb dL_law_509 (by decide) (fun _ => kk M2 u H locs h2 hH hS) (fun c9 => absurd rfl c9)
set_option maxHeartbeats 4000000 in
set_option maxRecDepth 100000 in
/-- strikes -/
theorem la_8 {p : Program} {e : Env} {s : State} {mid : MethodId} {below : List Frame} {meth : Method} {c0 : Code} (l : Launch) {b L : Nat} {xs : Nat → Int32} (hL : L ≤ 2560) (C0 : lw_At p s mid meth c0 b L xs) {E : mt_E} (hE : E.2.2.2 = s.heap.size) (hI : mt_I E s) {i : Nat} (hi : i + 5 ≤ L) {M : mt_M} {u : mt_U} (hM : rl M) {H : Heap} {locs : List Loc} {ls : Array Slot} (hH : mt_H E M u H) (hS : va_S (mt_A E) s.heap H locs) (hl : lv_has ls 4 [(3, .int (nI i)), (0, .ref b), (1, .ref (E.2.1 0)), (2, .ref (E.2.1 147))]) (kk : ∀ (M' : mt_M) (u' : mt_U) (H' : Heap) (locs' : List Loc), rl M' → mt_H E M' u' H' → va_S (mt_A E) s.heap H' locs' → W p l e room_1 s mid #[Value.ref b] below meth c0 H' locs' 164 2388 (lw_Z below #[Value.ref b] s) (F0 mid 1661 ls [])) : W p l e room_1 s mid #[Value.ref b] below meth c0 H locs 164 2388 (lw_Z below #[Value.ref b] s) (F0 mid 514 ls []) := by
  obtain ⟨hx, hb, hr, hml, hown, hts0, hX, hbl, hlocks, hgv⟩ := id C0
  have hown : s.vm.findClass RL = some mid.cls := hown
  have hts : ∀ w ∈ wsL_law, w.before #[Value.ref b] s = true := fun w h => hts0 w (wsL_law_in w h)
  have hbA : ¬ (mt_A E) b := la_b hE hbl
  have n1 : vp_in (nI i + 1) L := la_n1 hL hi
  have n2 : vp_in (nI i + 2) L := la_n2 hL hi
  obtain ⟨r, M1, M2, f1, f2, h2⟩ := cl_strikes (xs (nI i + 1).toNatClampNeg) (xs (nI i + 2).toNatClampNeg) M hM
  refine lv_aload_n hx hb dL_law_514 rfl (lv_at hl 2 rfl) ?_
  refine lv_aload_n hx hb dL_law_515 rfl (lv_at hl 1 rfl) ?_
  refine lv_iload_n hx hb dL_law_516 rfl (lv_at hl 0 rfl) ?_
  refine lv_iconst (v := 1) hx hb dL_law_517 (by decide) ?_
  refine lv_iadd hx hb dL_law_518 ?_
  refine va_sld hx hb hX hbl hbA hS n1 dL_law_519 ?_
  refine lv_aload_n hx hb dL_law_520 rfl (lv_at hl 1 rfl) ?_
  refine lv_iload_n hx hb dL_law_521 rfl (lv_at hl 0 rfl) ?_
  refine lv_iconst (v := 2) hx hb dL_law_522 (by decide) ?_
  refine lv_iadd hx hb dL_law_523 ?_
  refine va_sld hx hb hX hbl hbA hS n2 dL_law_524 ?_
  refine mt_goi (mt_runV (i := 0) (As := [.int (xs (nI i + 1).toNatClampNeg), .int (xs (nI i + 2).toNatClampNeg)]) (rest := []) ⟨hx, hb, hml, hown, hts⟩ hI hH (c_X11_strikes l E (xs (nI i + 1).toNatClampNeg) (xs (nI i + 2).toNatClampNeg) M u _ _ f1) (cwV 2 hts gL_law_X11_strikes rfl rfl rfl (by decide +kernel) ⟨Nat.le_of_ble_eq_true rfl, Nat.le_of_ble_eq_true rfl⟩) mt_T0 rfl rfl hl.1 rfl (Nat.le_of_ble_eq_true rfl) dL_law_525 ⟨Nat.le_of_ble_eq_true rfl, Nat.le_of_ble_eq_true rfl⟩) hS (fun H locs hH hS => ?_)
  refine lv_aload_n hx hb dL_law_528 rfl (lv_at hl 3 rfl) ?_
  refine lv_aload_n hx hb dL_law_529 rfl (lv_at hl 1 rfl) ?_
  refine lv_iload_n hx hb dL_law_530 rfl (lv_at hl 0 rfl) ?_
  refine lv_iconst (v := 1) hx hb dL_law_531 (by decide) ?_
  refine lv_iadd hx hb dL_law_532 ?_
  refine va_sld hx hb hX hbl hbA hS n1 dL_law_533 ?_
  refine lv_aload_n hx hb dL_law_534 rfl (lv_at hl 1 rfl) ?_
  refine lv_iload_n hx hb dL_law_535 rfl (lv_at hl 0 rfl) ?_
  refine lv_iconst (v := 2) hx hb dL_law_536 (by decide) ?_
  refine lv_iadd hx hb dL_law_537 ?_
  refine va_sld hx hb hX hbl hbA hS n2 dL_law_538 ?_
  refine mt_goi (mt_runV (i := 147) (As := [.int (xs (nI i + 1).toNatClampNeg), .int (xs (nI i + 2).toNatClampNeg)]) (rest := [.int r]) ⟨hx, hb, hml, hown, hts⟩ hI hH (c_X12_strikes l E (xs (nI i + 1).toNatClampNeg) (xs (nI i + 2).toNatClampNeg) M1 u _ _ f2) (cwV 2 hts gL_law_X12_strikes rfl rfl rfl (by decide +kernel) ⟨Nat.le_of_ble_eq_true rfl, Nat.le_of_ble_eq_true rfl⟩) mt_T147 rfl rfl hl.1 rfl (Nat.le_of_ble_eq_true rfl) dL_law_539 ⟨Nat.le_of_ble_eq_true rfl, Nat.le_of_ble_eq_true rfl⟩) hS (fun H locs hH hS => ?_)
  exact lv_icmp_eq (tgt := 1661) hx hb dL_law_542 (by decide) (fun _ => kk M2 u H locs h2 hH hS) (fun c9 => absurd rfl c9)
set_option maxHeartbeats 4000000 in
set_option maxRecDepth 100000 in
/-- rule -/
theorem la_9 {p : Program} {e : Env} {s : State} {mid : MethodId} {below : List Frame} {meth : Method} {c0 : Code} (l : Launch) {b L : Nat} {xs : Nat → Int32} (hL : L ≤ 2560) (C0 : lw_At p s mid meth c0 b L xs) {E : mt_E} (hE : E.2.2.2 = s.heap.size) (hI : mt_I E s) {i : Nat} (hi : i + 5 ≤ L) {M : mt_M} {u : mt_U} (hM : rl M) {H : Heap} {locs : List Loc} {ls : Array Slot} (hH : mt_H E M u H) (hS : va_S (mt_A E) s.heap H locs) (hl : lv_has ls 4 [(3, .int (nI i)), (0, .ref b), (1, .ref (E.2.1 0)), (2, .ref (E.2.1 147))]) (kk : ∀ (M' : mt_M) (u' : mt_U) (H' : Heap) (locs' : List Loc), rl M' → mt_H E M' u' H' → va_S (mt_A E) s.heap H' locs' → W p l e room_1 s mid #[Value.ref b] below meth c0 H' locs' 164 2388 (lw_Z below #[Value.ref b] s) (F0 mid 1661 ls [])) : W p l e room_1 s mid #[Value.ref b] below meth c0 H locs 164 2388 (lw_Z below #[Value.ref b] s) (F0 mid 547 ls []) := by
  obtain ⟨hx, hb, hr, hml, hown, hts0, hX, hbl, hlocks, hgv⟩ := id C0
  have hown : s.vm.findClass RL = some mid.cls := hown
  have hts : ∀ w ∈ wsL_law, w.before #[Value.ref b] s = true := fun w h => hts0 w (wsL_law_in w h)
  have hbA : ¬ (mt_A E) b := la_b hE hbl
  have n1 : vp_in (nI i + 1) L := la_n1 hL hi
  obtain ⟨r, M1, M2, f1, f2, h2⟩ := cl_rule (xs (nI i + 1).toNatClampNeg) M hM
  refine lv_aload_n hx hb dL_law_547 rfl (lv_at hl 2 rfl) ?_
  refine lv_aload_n hx hb dL_law_548 rfl (lv_at hl 1 rfl) ?_
  refine lv_iload_n hx hb dL_law_549 rfl (lv_at hl 0 rfl) ?_
  refine lv_iconst (v := 1) hx hb dL_law_550 (by decide) ?_
  refine lv_iadd hx hb dL_law_551 ?_
  refine va_sld hx hb hX hbl hbA hS n1 dL_law_552 ?_
  refine mt_goi (mt_runV (i := 0) (As := [.int (xs (nI i + 1).toNatClampNeg)]) (rest := []) ⟨hx, hb, hml, hown, hts⟩ hI hH (c_X11_rule l E (xs (nI i + 1).toNatClampNeg) M u _ _ f1) (cwV 1 hts gL_law_X11_rule rfl rfl rfl (by decide +kernel) ⟨Nat.le_of_ble_eq_true rfl, Nat.le_of_ble_eq_true rfl⟩) mt_T0 rfl rfl hl.1 rfl (Nat.le_of_ble_eq_true rfl) dL_law_553 ⟨Nat.le_of_ble_eq_true rfl, Nat.le_of_ble_eq_true rfl⟩) hS (fun H locs hH hS => ?_)
  refine lv_aload_n hx hb dL_law_556 rfl (lv_at hl 3 rfl) ?_
  refine lv_aload_n hx hb dL_law_557 rfl (lv_at hl 1 rfl) ?_
  refine lv_iload_n hx hb dL_law_558 rfl (lv_at hl 0 rfl) ?_
  refine lv_iconst (v := 1) hx hb dL_law_559 (by decide) ?_
  refine lv_iadd hx hb dL_law_560 ?_
  refine va_sld hx hb hX hbl hbA hS n1 dL_law_561 ?_
  refine mt_goi (mt_runV (i := 147) (As := [.int (xs (nI i + 1).toNatClampNeg)]) (rest := [.int r]) ⟨hx, hb, hml, hown, hts⟩ hI hH (c_X12_rule l E (xs (nI i + 1).toNatClampNeg) M1 u _ _ f2) (cwV 1 hts gL_law_X12_rule rfl rfl rfl (by decide +kernel) ⟨Nat.le_of_ble_eq_true rfl, Nat.le_of_ble_eq_true rfl⟩) mt_T147 rfl rfl hl.1 rfl (Nat.le_of_ble_eq_true rfl) dL_law_562 ⟨Nat.le_of_ble_eq_true rfl, Nat.le_of_ble_eq_true rfl⟩) hS (fun H locs hH hS => ?_)
  exact lv_icmp_eq (tgt := 1661) hx hb dL_law_565 (by decide) (fun _ => kk M2 u H locs h2 hH hS) (fun c9 => absurd rfl c9)
set_option maxHeartbeats 4000000 in
set_option maxRecDepth 100000 in
/-- join -/
theorem la_10 {p : Program} {e : Env} {s : State} {mid : MethodId} {below : List Frame} {meth : Method} {c0 : Code} (l : Launch) {b L : Nat} {xs : Nat → Int32} (hL : L ≤ 2560) (C0 : lw_At p s mid meth c0 b L xs) {E : mt_E} (hE : E.2.2.2 = s.heap.size) (hI : mt_I E s) {i : Nat} (hi : i + 5 ≤ L) {M : mt_M} {u : mt_U} (hM : rl M) {H : Heap} {locs : List Loc} {ls : Array Slot} (hH : mt_H E M u H) (hS : va_S (mt_A E) s.heap H locs) (hl : lv_has ls 4 [(3, .int (nI i)), (0, .ref b), (1, .ref (E.2.1 0)), (2, .ref (E.2.1 147))]) (kk : ∀ (M' : mt_M) (u' : mt_U) (H' : Heap) (locs' : List Loc), rl M' → mt_H E M' u' H' → va_S (mt_A E) s.heap H' locs' → W p l e room_1 s mid #[Value.ref b] below meth c0 H' locs' 164 2388 (lw_Z below #[Value.ref b] s) (F0 mid 1661 ls [])) : W p l e room_1 s mid #[Value.ref b] below meth c0 H locs 164 2388 (lw_Z below #[Value.ref b] s) (F0 mid 570 ls []) := by
  obtain ⟨hx, hb, hr, hml, hown, hts0, hX, hbl, hlocks, hgv⟩ := id C0
  have hown : s.vm.findClass RL = some mid.cls := hown
  have hts : ∀ w ∈ wsL_law, w.before #[Value.ref b] s = true := fun w h => hts0 w (wsL_law_in w h)
  have hbA : ¬ (mt_A E) b := la_b hE hbl
  obtain ⟨r, M1, M2, f1, f2, h2⟩ := cl_join  M hM
  refine lv_aload_n hx hb dL_law_570 rfl (lv_at hl 2 rfl) ?_
  refine mt_goi (mt_runV (i := 0) (As := []) (rest := []) ⟨hx, hb, hml, hown, hts⟩ hI hH (c_X11_join l E  M u _ _ f1) (cwV 0 hts gL_law_X11_join rfl rfl rfl (by decide +kernel) ⟨Nat.le_of_ble_eq_true rfl, Nat.le_of_ble_eq_true rfl⟩) mt_T0 rfl rfl hl.1 rfl (Nat.le_of_ble_eq_true rfl) dL_law_571 ⟨Nat.le_of_ble_eq_true rfl, Nat.le_of_ble_eq_true rfl⟩) hS (fun H locs hH hS => ?_)
  refine lv_aload_n hx hb dL_law_574 rfl (lv_at hl 3 rfl) ?_
  refine mt_goi (mt_runV (i := 147) (As := []) (rest := [.int r]) ⟨hx, hb, hml, hown, hts⟩ hI hH (c_X12_join l E  M1 u _ _ f2) (cwV 0 hts gL_law_X12_join rfl rfl rfl (by decide +kernel) ⟨Nat.le_of_ble_eq_true rfl, Nat.le_of_ble_eq_true rfl⟩) mt_T147 rfl rfl hl.1 rfl (Nat.le_of_ble_eq_true rfl) dL_law_575 ⟨Nat.le_of_ble_eq_true rfl, Nat.le_of_ble_eq_true rfl⟩) hS (fun H locs hH hS => ?_)
  exact lv_icmp_eq (tgt := 1661) hx hb dL_law_578 (by decide) (fun _ => kk M2 u H locs h2 hH hS) (fun c9 => absurd rfl c9)
set_option maxHeartbeats 4000000 in
set_option maxRecDepth 100000 in
/-- day -/
theorem la_11 {p : Program} {e : Env} {s : State} {mid : MethodId} {below : List Frame} {meth : Method} {c0 : Code} (l : Launch) {b L : Nat} {xs : Nat → Int32} (hL : L ≤ 2560) (C0 : lw_At p s mid meth c0 b L xs) {E : mt_E} (hE : E.2.2.2 = s.heap.size) (hI : mt_I E s) {i : Nat} (hi : i + 5 ≤ L) {M : mt_M} {u : mt_U} (hM : rl M) {H : Heap} {locs : List Loc} {ls : Array Slot} (hH : mt_H E M u H) (hS : va_S (mt_A E) s.heap H locs) (hl : lv_has ls 4 [(3, .int (nI i)), (0, .ref b), (1, .ref (E.2.1 0)), (2, .ref (E.2.1 147))]) (kk : ∀ (M' : mt_M) (u' : mt_U) (H' : Heap) (locs' : List Loc), rl M' → mt_H E M' u' H' → va_S (mt_A E) s.heap H' locs' → W p l e room_1 s mid #[Value.ref b] below meth c0 H' locs' 164 2388 (lw_Z below #[Value.ref b] s) (F0 mid 1661 ls [])) : W p l e room_1 s mid #[Value.ref b] below meth c0 H locs 164 2388 (lw_Z below #[Value.ref b] s) (F0 mid 583 ls []) := by
  obtain ⟨hx, hb, hr, hml, hown, hts0, hX, hbl, hlocks, hgv⟩ := id C0
  have hown : s.vm.findClass RL = some mid.cls := hown
  have hts : ∀ w ∈ wsL_law, w.before #[Value.ref b] s = true := fun w h => hts0 w (wsL_law_in w h)
  have hbA : ¬ (mt_A E) b := la_b hE hbl
  obtain ⟨r, M1, M2, f1, f2, h2⟩ := cl_day  M hM
  refine lv_aload_n hx hb dL_law_583 rfl (lv_at hl 2 rfl) ?_
  refine mt_goi (mt_runV (i := 0) (As := []) (rest := []) ⟨hx, hb, hml, hown, hts⟩ hI hH (c_X11_day l E  M u _ _ f1) (cwV 0 hts gL_law_X11_day rfl rfl rfl (by decide +kernel) ⟨Nat.le_of_ble_eq_true rfl, Nat.le_of_ble_eq_true rfl⟩) mt_T0 rfl rfl hl.1 rfl (Nat.le_of_ble_eq_true rfl) dL_law_584 ⟨Nat.le_of_ble_eq_true rfl, Nat.le_of_ble_eq_true rfl⟩) hS (fun H locs hH hS => ?_)
  refine lv_aload_n hx hb dL_law_587 rfl (lv_at hl 3 rfl) ?_
  refine mt_goi (mt_runV (i := 147) (As := []) (rest := [.int r]) ⟨hx, hb, hml, hown, hts⟩ hI hH (c_X12_day l E  M1 u _ _ f2) (cwV 0 hts gL_law_X12_day rfl rfl rfl (by decide +kernel) ⟨Nat.le_of_ble_eq_true rfl, Nat.le_of_ble_eq_true rfl⟩) mt_T147 rfl rfl hl.1 rfl (Nat.le_of_ble_eq_true rfl) dL_law_588 ⟨Nat.le_of_ble_eq_true rfl, Nat.le_of_ble_eq_true rfl⟩) hS (fun H locs hH hS => ?_)
  exact lv_icmp_eq (tgt := 1661) hx hb dL_law_591 (by decide) (fun _ => kk M2 u H locs h2 hH hS) (fun c9 => absurd rfl c9)
set_option maxHeartbeats 4000000 in
set_option maxRecDepth 100000 in
/-- back -/
theorem la_12 {p : Program} {e : Env} {s : State} {mid : MethodId} {below : List Frame} {meth : Method} {c0 : Code} (l : Launch) {b L : Nat} {xs : Nat → Int32} (hL : L ≤ 2560) (C0 : lw_At p s mid meth c0 b L xs) {E : mt_E} (hE : E.2.2.2 = s.heap.size) (hI : mt_I E s) {i : Nat} (hi : i + 5 ≤ L) {M : mt_M} {u : mt_U} (hM : rl M) {H : Heap} {locs : List Loc} {ls : Array Slot} (hH : mt_H E M u H) (hS : va_S (mt_A E) s.heap H locs) (hl : lv_has ls 4 [(3, .int (nI i)), (0, .ref b), (1, .ref (E.2.1 0)), (2, .ref (E.2.1 147))]) (kk : ∀ (M' : mt_M) (u' : mt_U) (H' : Heap) (locs' : List Loc), rl M' → mt_H E M' u' H' → va_S (mt_A E) s.heap H' locs' → W p l e room_1 s mid #[Value.ref b] below meth c0 H' locs' 164 2388 (lw_Z below #[Value.ref b] s) (F0 mid 1661 ls [])) : W p l e room_1 s mid #[Value.ref b] below meth c0 H locs 164 2388 (lw_Z below #[Value.ref b] s) (F0 mid 596 ls []) := by
  obtain ⟨hx, hb, hr, hml, hown, hts0, hX, hbl, hlocks, hgv⟩ := id C0
  have hown : s.vm.findClass RL = some mid.cls := hown
  have hts : ∀ w ∈ wsL_law, w.before #[Value.ref b] s = true := fun w h => hts0 w (wsL_law_in w h)
  have hbA : ¬ (mt_A E) b := la_b hE hbl
  obtain ⟨r, M1, M2, f1, f2, h2⟩ := cl_back  M hM
  refine lv_aload_n hx hb dL_law_596 rfl (lv_at hl 2 rfl) ?_
  refine mt_goi (mt_runV (i := 0) (As := []) (rest := []) ⟨hx, hb, hml, hown, hts⟩ hI hH (c_X11_back l E  M u _ _ f1) (cwV 0 hts gL_law_X11_back rfl rfl rfl (by decide +kernel) ⟨Nat.le_of_ble_eq_true rfl, Nat.le_of_ble_eq_true rfl⟩) mt_T0 rfl rfl hl.1 rfl (Nat.le_of_ble_eq_true rfl) dL_law_597 ⟨Nat.le_of_ble_eq_true rfl, Nat.le_of_ble_eq_true rfl⟩) hS (fun H locs hH hS => ?_)
  refine lv_aload_n hx hb dL_law_600 rfl (lv_at hl 3 rfl) ?_
  refine mt_goi (mt_runV (i := 147) (As := []) (rest := [.int r]) ⟨hx, hb, hml, hown, hts⟩ hI hH (c_X12_back l E  M1 u _ _ f2) (cwV 0 hts gL_law_X12_back rfl rfl rfl (by decide +kernel) ⟨Nat.le_of_ble_eq_true rfl, Nat.le_of_ble_eq_true rfl⟩) mt_T147 rfl rfl hl.1 rfl (Nat.le_of_ble_eq_true rfl) dL_law_601 ⟨Nat.le_of_ble_eq_true rfl, Nat.le_of_ble_eq_true rfl⟩) hS (fun H locs hH hS => ?_)
  exact lv_icmp_eq (tgt := 1661) hx hb dL_law_604 (by decide) (fun _ => kk M2 u H locs h2 hH hS) (fun c9 => absurd rfl c9)
set_option maxHeartbeats 4000000 in
set_option maxRecDepth 100000 in
/-- apart -/
theorem la_13 {p : Program} {e : Env} {s : State} {mid : MethodId} {below : List Frame} {meth : Method} {c0 : Code} (l : Launch) {b L : Nat} {xs : Nat → Int32} (hL : L ≤ 2560) (C0 : lw_At p s mid meth c0 b L xs) {E : mt_E} (hE : E.2.2.2 = s.heap.size) (hI : mt_I E s) {i : Nat} (hi : i + 5 ≤ L) {M : mt_M} {u : mt_U} (hM : rl M) {H : Heap} {locs : List Loc} {ls : Array Slot} (hH : mt_H E M u H) (hS : va_S (mt_A E) s.heap H locs) (hl : lv_has ls 4 [(3, .int (nI i)), (0, .ref b), (1, .ref (E.2.1 0)), (2, .ref (E.2.1 147))]) (kk : ∀ (M' : mt_M) (u' : mt_U) (H' : Heap) (locs' : List Loc), rl M' → mt_H E M' u' H' → va_S (mt_A E) s.heap H' locs' → W p l e room_1 s mid #[Value.ref b] below meth c0 H' locs' 164 2388 (lw_Z below #[Value.ref b] s) (F0 mid 1661 ls [])) : W p l e room_1 s mid #[Value.ref b] below meth c0 H locs 164 2388 (lw_Z below #[Value.ref b] s) (F0 mid 609 ls []) := by
  obtain ⟨hx, hb, hr, hml, hown, hts0, hX, hbl, hlocks, hgv⟩ := id C0
  have hown : s.vm.findClass RL = some mid.cls := hown
  have hts : ∀ w ∈ wsL_law, w.before #[Value.ref b] s = true := fun w h => hts0 w (wsL_law_in w h)
  have hbA : ¬ (mt_A E) b := la_b hE hbl
  obtain ⟨r, f1, f2⟩ := cl_apart  M hM
  refine lv_aload_n hx hb dL_law_609 rfl (lv_at hl 2 rfl) ?_
  refine mt_goi (mt_runV (i := 0) (As := []) (rest := []) ⟨hx, hb, hml, hown, hts⟩ hI hH (c_X11_apart l E  M u _ f1) (cwV 0 hts gL_law_X11_apart rfl rfl rfl (by decide +kernel) ⟨Nat.le_of_ble_eq_true rfl, Nat.le_of_ble_eq_true rfl⟩) mt_T0 rfl rfl hl.1 rfl (Nat.le_of_ble_eq_true rfl) dL_law_610 ⟨Nat.le_of_ble_eq_true rfl, Nat.le_of_ble_eq_true rfl⟩) hS (fun H locs hH hS => ?_)
  refine lv_aload_n hx hb dL_law_613 rfl (lv_at hl 3 rfl) ?_
  refine mt_goi (mt_runV (i := 147) (As := []) (rest := [.int r]) ⟨hx, hb, hml, hown, hts⟩ hI hH (c_X12_apart l E  M u _ f2) (cwV 0 hts gL_law_X12_apart rfl rfl rfl (by decide +kernel) ⟨Nat.le_of_ble_eq_true rfl, Nat.le_of_ble_eq_true rfl⟩) mt_T147 rfl rfl hl.1 rfl (Nat.le_of_ble_eq_true rfl) dL_law_614 ⟨Nat.le_of_ble_eq_true rfl, Nat.le_of_ble_eq_true rfl⟩) hS (fun H locs hH hS => ?_)
  exact lv_icmp_eq (tgt := 1661) hx hb dL_law_617 (by decide) (fun _ => kk M u H locs hM hH hS) (fun c9 => absurd rfl c9)
set_option maxHeartbeats 4000000 in
set_option maxRecDepth 100000 in
/-- joined -/
theorem la_14 {p : Program} {e : Env} {s : State} {mid : MethodId} {below : List Frame} {meth : Method} {c0 : Code} (l : Launch) {b L : Nat} {xs : Nat → Int32} (hL : L ≤ 2560) (C0 : lw_At p s mid meth c0 b L xs) {E : mt_E} (hE : E.2.2.2 = s.heap.size) (hI : mt_I E s) {i : Nat} (hi : i + 5 ≤ L) {M : mt_M} {u : mt_U} (hM : rl M) {H : Heap} {locs : List Loc} {ls : Array Slot} (hH : mt_H E M u H) (hS : va_S (mt_A E) s.heap H locs) (hl : lv_has ls 4 [(3, .int (nI i)), (0, .ref b), (1, .ref (E.2.1 0)), (2, .ref (E.2.1 147))]) (kk : ∀ (M' : mt_M) (u' : mt_U) (H' : Heap) (locs' : List Loc), rl M' → mt_H E M' u' H' → va_S (mt_A E) s.heap H' locs' → W p l e room_1 s mid #[Value.ref b] below meth c0 H' locs' 164 2388 (lw_Z below #[Value.ref b] s) (F0 mid 1661 ls [])) : W p l e room_1 s mid #[Value.ref b] below meth c0 H locs 164 2388 (lw_Z below #[Value.ref b] s) (F0 mid 622 ls []) := by
  obtain ⟨hx, hb, hr, hml, hown, hts0, hX, hbl, hlocks, hgv⟩ := id C0
  have hown : s.vm.findClass RL = some mid.cls := hown
  have hts : ∀ w ∈ wsL_law, w.before #[Value.ref b] s = true := fun w h => hts0 w (wsL_law_in w h)
  have hbA : ¬ (mt_A E) b := la_b hE hbl
  have n1 : vp_in (nI i + 1) L := la_n1 hL hi
  have n2 : vp_in (nI i + 2) L := la_n2 hL hi
  obtain ⟨r, M1, M2, f1, f2, h2⟩ := cl_joined (xs (nI i + 1).toNatClampNeg) (xs (nI i + 2).toNatClampNeg) M hM
  refine lv_aload_n hx hb dL_law_622 rfl (lv_at hl 2 rfl) ?_
  refine lv_aload_n hx hb dL_law_623 rfl (lv_at hl 1 rfl) ?_
  refine lv_iload_n hx hb dL_law_624 rfl (lv_at hl 0 rfl) ?_
  refine lv_iconst (v := 1) hx hb dL_law_625 (by decide) ?_
  refine lv_iadd hx hb dL_law_626 ?_
  refine va_sld hx hb hX hbl hbA hS n1 dL_law_627 ?_
  refine lv_aload_n hx hb dL_law_628 rfl (lv_at hl 1 rfl) ?_
  refine lv_iload_n hx hb dL_law_629 rfl (lv_at hl 0 rfl) ?_
  refine lv_iconst (v := 2) hx hb dL_law_630 (by decide) ?_
  refine lv_iadd hx hb dL_law_631 ?_
  refine va_sld hx hb hX hbl hbA hS n2 dL_law_632 ?_
  refine mt_goi (mt_runV (i := 0) (As := [.int (xs (nI i + 1).toNatClampNeg), .int (xs (nI i + 2).toNatClampNeg)]) (rest := []) ⟨hx, hb, hml, hown, hts⟩ hI hH (c_X11_joined l E (xs (nI i + 1).toNatClampNeg) (xs (nI i + 2).toNatClampNeg) M u _ _ f1) (cwV 2 hts gL_law_X11_joined rfl rfl rfl (by decide +kernel) ⟨Nat.le_of_ble_eq_true rfl, Nat.le_of_ble_eq_true rfl⟩) mt_T0 rfl rfl hl.1 rfl (Nat.le_of_ble_eq_true rfl) dL_law_633 ⟨Nat.le_of_ble_eq_true rfl, Nat.le_of_ble_eq_true rfl⟩) hS (fun H locs hH hS => ?_)
  refine lv_aload_n hx hb dL_law_636 rfl (lv_at hl 3 rfl) ?_
  refine lv_aload_n hx hb dL_law_637 rfl (lv_at hl 1 rfl) ?_
  refine lv_iload_n hx hb dL_law_638 rfl (lv_at hl 0 rfl) ?_
  refine lv_iconst (v := 1) hx hb dL_law_639 (by decide) ?_
  refine lv_iadd hx hb dL_law_640 ?_
  refine va_sld hx hb hX hbl hbA hS n1 dL_law_641 ?_
  refine lv_aload_n hx hb dL_law_642 rfl (lv_at hl 1 rfl) ?_
  refine lv_iload_n hx hb dL_law_643 rfl (lv_at hl 0 rfl) ?_
  refine lv_iconst (v := 2) hx hb dL_law_644 (by decide) ?_
  refine lv_iadd hx hb dL_law_645 ?_
  refine va_sld hx hb hX hbl hbA hS n2 dL_law_646 ?_
  refine mt_goi (mt_runV (i := 147) (As := [.int (xs (nI i + 1).toNatClampNeg), .int (xs (nI i + 2).toNatClampNeg)]) (rest := [.int r]) ⟨hx, hb, hml, hown, hts⟩ hI hH (c_X12_joined l E (xs (nI i + 1).toNatClampNeg) (xs (nI i + 2).toNatClampNeg) M1 u _ _ f2) (cwV 2 hts gL_law_X12_joined rfl rfl rfl (by decide +kernel) ⟨Nat.le_of_ble_eq_true rfl, Nat.le_of_ble_eq_true rfl⟩) mt_T147 rfl rfl hl.1 rfl (Nat.le_of_ble_eq_true rfl) dL_law_647 ⟨Nat.le_of_ble_eq_true rfl, Nat.le_of_ble_eq_true rfl⟩) hS (fun H locs hH hS => ?_)
  exact lv_icmp_eq (tgt := 1661) hx hb dL_law_650 (by decide) (fun _ => kk M2 u H locs h2 hH hS) (fun c9 => absurd rfl c9)
set_option maxHeartbeats 4000000 in
set_option maxRecDepth 100000 in
/-- bestRule -/
theorem la_15 {p : Program} {e : Env} {s : State} {mid : MethodId} {below : List Frame} {meth : Method} {c0 : Code} (l : Launch) {b L : Nat} {xs : Nat → Int32} (hL : L ≤ 2560) (C0 : lw_At p s mid meth c0 b L xs) {E : mt_E} (hE : E.2.2.2 = s.heap.size) (hI : mt_I E s) {i : Nat} (hi : i + 5 ≤ L) {M : mt_M} {u : mt_U} (hM : rl M) {H : Heap} {locs : List Loc} {ls : Array Slot} (hH : mt_H E M u H) (hS : va_S (mt_A E) s.heap H locs) (hl : lv_has ls 4 [(3, .int (nI i)), (0, .ref b), (1, .ref (E.2.1 0)), (2, .ref (E.2.1 147))]) (kk : ∀ (M' : mt_M) (u' : mt_U) (H' : Heap) (locs' : List Loc), rl M' → mt_H E M' u' H' → va_S (mt_A E) s.heap H' locs' → W p l e room_1 s mid #[Value.ref b] below meth c0 H' locs' 164 2388 (lw_Z below #[Value.ref b] s) (F0 mid 1661 ls [])) : W p l e room_1 s mid #[Value.ref b] below meth c0 H locs 164 2388 (lw_Z below #[Value.ref b] s) (F0 mid 655 ls []) := by
  obtain ⟨hx, hb, hr, hml, hown, hts0, hX, hbl, hlocks, hgv⟩ := id C0
  have hown : s.vm.findClass RL = some mid.cls := hown
  have hts : ∀ w ∈ wsL_law, w.before #[Value.ref b] s = true := fun w h => hts0 w (wsL_law_in w h)
  have hbA : ¬ (mt_A E) b := la_b hE hbl
  have n1 : vp_in (nI i + 1) L := la_n1 hL hi
  obtain ⟨r, M1, M2, f1, f2, h2⟩ := cl_bestRule (xs (nI i + 1).toNatClampNeg) M hM
  refine lv_aload_n hx hb dL_law_655 rfl (lv_at hl 2 rfl) ?_
  refine lv_aload_n hx hb dL_law_656 rfl (lv_at hl 1 rfl) ?_
  refine lv_iload_n hx hb dL_law_657 rfl (lv_at hl 0 rfl) ?_
  refine lv_iconst (v := 1) hx hb dL_law_658 (by decide) ?_
  refine lv_iadd hx hb dL_law_659 ?_
  refine va_sld hx hb hX hbl hbA hS n1 dL_law_660 ?_
  refine mt_goi (mt_runV (i := 0) (As := [.int (xs (nI i + 1).toNatClampNeg)]) (rest := []) ⟨hx, hb, hml, hown, hts⟩ hI hH (c_X11_bestRule l E (xs (nI i + 1).toNatClampNeg) M u _ _ f1) (cwV 1 hts gL_law_X11_bestRule rfl rfl rfl (by decide +kernel) ⟨Nat.le_of_ble_eq_true rfl, Nat.le_of_ble_eq_true rfl⟩) mt_T0 rfl rfl hl.1 rfl (Nat.le_of_ble_eq_true rfl) dL_law_661 ⟨Nat.le_of_ble_eq_true rfl, Nat.le_of_ble_eq_true rfl⟩) hS (fun H locs hH hS => ?_)
  refine lv_aload_n hx hb dL_law_664 rfl (lv_at hl 3 rfl) ?_
  refine lv_aload_n hx hb dL_law_665 rfl (lv_at hl 1 rfl) ?_
  refine lv_iload_n hx hb dL_law_666 rfl (lv_at hl 0 rfl) ?_
  refine lv_iconst (v := 1) hx hb dL_law_667 (by decide) ?_
  refine lv_iadd hx hb dL_law_668 ?_
  refine va_sld hx hb hX hbl hbA hS n1 dL_law_669 ?_
  refine mt_goi (mt_runV (i := 147) (As := [.int (xs (nI i + 1).toNatClampNeg)]) (rest := [.int r]) ⟨hx, hb, hml, hown, hts⟩ hI hH (c_X12_bestRule l E (xs (nI i + 1).toNatClampNeg) M1 u _ _ f2) (cwV 1 hts gL_law_X12_bestRule rfl rfl rfl (by decide +kernel) ⟨Nat.le_of_ble_eq_true rfl, Nat.le_of_ble_eq_true rfl⟩) mt_T147 rfl rfl hl.1 rfl (Nat.le_of_ble_eq_true rfl) dL_law_670 ⟨Nat.le_of_ble_eq_true rfl, Nat.le_of_ble_eq_true rfl⟩) hS (fun H locs hH hS => ?_)
  exact lv_icmp_eq (tgt := 1661) hx hb dL_law_673 (by decide) (fun _ => kk M2 u H locs h2 hH hS) (fun c9 => absurd rfl c9)
set_option maxHeartbeats 4000000 in
set_option maxRecDepth 100000 in
/-- stockIn -/
theorem la_16 {p : Program} {e : Env} {s : State} {mid : MethodId} {below : List Frame} {meth : Method} {c0 : Code} (l : Launch) {b L : Nat} {xs : Nat → Int32} (hL : L ≤ 2560) (C0 : lw_At p s mid meth c0 b L xs) {E : mt_E} (hE : E.2.2.2 = s.heap.size) (hI : mt_I E s) {i : Nat} (hi : i + 5 ≤ L) {M : mt_M} {u : mt_U} (hM : rl M) {H : Heap} {locs : List Loc} {ls : Array Slot} (hH : mt_H E M u H) (hS : va_S (mt_A E) s.heap H locs) (hl : lv_has ls 4 [(3, .int (nI i)), (0, .ref b), (1, .ref (E.2.1 0)), (2, .ref (E.2.1 147))]) (kk : ∀ (M' : mt_M) (u' : mt_U) (H' : Heap) (locs' : List Loc), rl M' → mt_H E M' u' H' → va_S (mt_A E) s.heap H' locs' → W p l e room_1 s mid #[Value.ref b] below meth c0 H' locs' 164 2388 (lw_Z below #[Value.ref b] s) (F0 mid 1661 ls [])) : W p l e room_1 s mid #[Value.ref b] below meth c0 H locs 164 2388 (lw_Z below #[Value.ref b] s) (F0 mid 678 ls []) := by
  obtain ⟨hx, hb, hr, hml, hown, hts0, hX, hbl, hlocks, hgv⟩ := id C0
  have hown : s.vm.findClass RL = some mid.cls := hown
  have hts : ∀ w ∈ wsL_law, w.before #[Value.ref b] s = true := fun w h => hts0 w (wsL_law_in w h)
  have hbA : ¬ (mt_A E) b := la_b hE hbl
  have n1 : vp_in (nI i + 1) L := la_n1 hL hi
  have n2 : vp_in (nI i + 2) L := la_n2 hL hi
  obtain ⟨r, M1, M2, f1, f2, h2⟩ := cl_stockIn (xs (nI i + 1).toNatClampNeg) (xs (nI i + 2).toNatClampNeg) M hM
  refine lv_aload_n hx hb dL_law_678 rfl (lv_at hl 2 rfl) ?_
  refine lv_aload_n hx hb dL_law_679 rfl (lv_at hl 1 rfl) ?_
  refine lv_iload_n hx hb dL_law_680 rfl (lv_at hl 0 rfl) ?_
  refine lv_iconst (v := 1) hx hb dL_law_681 (by decide) ?_
  refine lv_iadd hx hb dL_law_682 ?_
  refine va_sld hx hb hX hbl hbA hS n1 dL_law_683 ?_
  refine lv_aload_n hx hb dL_law_684 rfl (lv_at hl 1 rfl) ?_
  refine lv_iload_n hx hb dL_law_685 rfl (lv_at hl 0 rfl) ?_
  refine lv_iconst (v := 2) hx hb dL_law_686 (by decide) ?_
  refine lv_iadd hx hb dL_law_687 ?_
  refine va_sld hx hb hX hbl hbA hS n2 dL_law_688 ?_
  refine mt_goi (mt_runV (i := 0) (As := [.int (xs (nI i + 1).toNatClampNeg), .int (xs (nI i + 2).toNatClampNeg)]) (rest := []) ⟨hx, hb, hml, hown, hts⟩ hI hH (c_X11_stockIn l E (xs (nI i + 1).toNatClampNeg) (xs (nI i + 2).toNatClampNeg) M u _ _ f1) (cwV 2 hts gL_law_X11_stockIn rfl rfl rfl (by decide +kernel) ⟨Nat.le_of_ble_eq_true rfl, Nat.le_of_ble_eq_true rfl⟩) mt_T0 rfl rfl hl.1 rfl (Nat.le_of_ble_eq_true rfl) dL_law_689 ⟨Nat.le_of_ble_eq_true rfl, Nat.le_of_ble_eq_true rfl⟩) hS (fun H locs hH hS => ?_)
  refine lv_aload_n hx hb dL_law_692 rfl (lv_at hl 3 rfl) ?_
  refine lv_aload_n hx hb dL_law_693 rfl (lv_at hl 1 rfl) ?_
  refine lv_iload_n hx hb dL_law_694 rfl (lv_at hl 0 rfl) ?_
  refine lv_iconst (v := 1) hx hb dL_law_695 (by decide) ?_
  refine lv_iadd hx hb dL_law_696 ?_
  refine va_sld hx hb hX hbl hbA hS n1 dL_law_697 ?_
  refine lv_aload_n hx hb dL_law_698 rfl (lv_at hl 1 rfl) ?_
  refine lv_iload_n hx hb dL_law_699 rfl (lv_at hl 0 rfl) ?_
  refine lv_iconst (v := 2) hx hb dL_law_700 (by decide) ?_
  refine lv_iadd hx hb dL_law_701 ?_
  refine va_sld hx hb hX hbl hbA hS n2 dL_law_702 ?_
  refine mt_goi (mt_runV (i := 147) (As := [.int (xs (nI i + 1).toNatClampNeg), .int (xs (nI i + 2).toNatClampNeg)]) (rest := [.int r]) ⟨hx, hb, hml, hown, hts⟩ hI hH (c_X12_stockIn l E (xs (nI i + 1).toNatClampNeg) (xs (nI i + 2).toNatClampNeg) M1 u _ _ f2) (cwV 2 hts gL_law_X12_stockIn rfl rfl rfl (by decide +kernel) ⟨Nat.le_of_ble_eq_true rfl, Nat.le_of_ble_eq_true rfl⟩) mt_T147 rfl rfl hl.1 rfl (Nat.le_of_ble_eq_true rfl) dL_law_703 ⟨Nat.le_of_ble_eq_true rfl, Nat.le_of_ble_eq_true rfl⟩) hS (fun H locs hH hS => ?_)
  exact lv_icmp_eq (tgt := 1661) hx hb dL_law_706 (by decide) (fun _ => kk M2 u H locs h2 hH hS) (fun c9 => absurd rfl c9)
set_option maxHeartbeats 4000000 in
set_option maxRecDepth 100000 in
/-- lacking -/
theorem la_17 {p : Program} {e : Env} {s : State} {mid : MethodId} {below : List Frame} {meth : Method} {c0 : Code} (l : Launch) {b L : Nat} {xs : Nat → Int32} (hL : L ≤ 2560) (C0 : lw_At p s mid meth c0 b L xs) {E : mt_E} (hE : E.2.2.2 = s.heap.size) (hI : mt_I E s) {i : Nat} (hi : i + 5 ≤ L) {M : mt_M} {u : mt_U} (hM : rl M) {H : Heap} {locs : List Loc} {ls : Array Slot} (hH : mt_H E M u H) (hS : va_S (mt_A E) s.heap H locs) (hl : lv_has ls 4 [(3, .int (nI i)), (0, .ref b), (1, .ref (E.2.1 0)), (2, .ref (E.2.1 147))]) (kk : ∀ (M' : mt_M) (u' : mt_U) (H' : Heap) (locs' : List Loc), rl M' → mt_H E M' u' H' → va_S (mt_A E) s.heap H' locs' → W p l e room_1 s mid #[Value.ref b] below meth c0 H' locs' 164 2388 (lw_Z below #[Value.ref b] s) (F0 mid 1661 ls [])) : W p l e room_1 s mid #[Value.ref b] below meth c0 H locs 164 2388 (lw_Z below #[Value.ref b] s) (F0 mid 711 ls []) := by
  obtain ⟨hx, hb, hr, hml, hown, hts0, hX, hbl, hlocks, hgv⟩ := id C0
  have hown : s.vm.findClass RL = some mid.cls := hown
  have hts : ∀ w ∈ wsL_law, w.before #[Value.ref b] s = true := fun w h => hts0 w (wsL_law_in w h)
  have hbA : ¬ (mt_A E) b := la_b hE hbl
  have n1 : vp_in (nI i + 1) L := la_n1 hL hi
  have n2 : vp_in (nI i + 2) L := la_n2 hL hi
  obtain ⟨r, M1, M2, f1, f2, h2⟩ := cl_lacking (xs (nI i + 1).toNatClampNeg) (xs (nI i + 2).toNatClampNeg) M hM
  refine lv_aload_n hx hb dL_law_711 rfl (lv_at hl 2 rfl) ?_
  refine lv_aload_n hx hb dL_law_712 rfl (lv_at hl 1 rfl) ?_
  refine lv_iload_n hx hb dL_law_713 rfl (lv_at hl 0 rfl) ?_
  refine lv_iconst (v := 1) hx hb dL_law_714 (by decide) ?_
  refine lv_iadd hx hb dL_law_715 ?_
  refine va_sld hx hb hX hbl hbA hS n1 dL_law_716 ?_
  refine lv_aload_n hx hb dL_law_717 rfl (lv_at hl 1 rfl) ?_
  refine lv_iload_n hx hb dL_law_718 rfl (lv_at hl 0 rfl) ?_
  refine lv_iconst (v := 2) hx hb dL_law_719 (by decide) ?_
  refine lv_iadd hx hb dL_law_720 ?_
  refine va_sld hx hb hX hbl hbA hS n2 dL_law_721 ?_
  refine mt_goi (mt_runV (i := 0) (As := [.int (xs (nI i + 1).toNatClampNeg), .int (xs (nI i + 2).toNatClampNeg)]) (rest := []) ⟨hx, hb, hml, hown, hts⟩ hI hH (c_X11_lacking l E (xs (nI i + 1).toNatClampNeg) (xs (nI i + 2).toNatClampNeg) M u _ _ f1) (cwV 2 hts gL_law_X11_lacking rfl rfl rfl (by decide +kernel) ⟨Nat.le_of_ble_eq_true rfl, Nat.le_of_ble_eq_true rfl⟩) mt_T0 rfl rfl hl.1 rfl (Nat.le_of_ble_eq_true rfl) dL_law_722 ⟨Nat.le_of_ble_eq_true rfl, Nat.le_of_ble_eq_true rfl⟩) hS (fun H locs hH hS => ?_)
  refine lv_aload_n hx hb dL_law_725 rfl (lv_at hl 3 rfl) ?_
  refine lv_aload_n hx hb dL_law_726 rfl (lv_at hl 1 rfl) ?_
  refine lv_iload_n hx hb dL_law_727 rfl (lv_at hl 0 rfl) ?_
  refine lv_iconst (v := 1) hx hb dL_law_728 (by decide) ?_
  refine lv_iadd hx hb dL_law_729 ?_
  refine va_sld hx hb hX hbl hbA hS n1 dL_law_730 ?_
  refine lv_aload_n hx hb dL_law_731 rfl (lv_at hl 1 rfl) ?_
  refine lv_iload_n hx hb dL_law_732 rfl (lv_at hl 0 rfl) ?_
  refine lv_iconst (v := 2) hx hb dL_law_733 (by decide) ?_
  refine lv_iadd hx hb dL_law_734 ?_
  refine va_sld hx hb hX hbl hbA hS n2 dL_law_735 ?_
  refine mt_goi (mt_runV (i := 147) (As := [.int (xs (nI i + 1).toNatClampNeg), .int (xs (nI i + 2).toNatClampNeg)]) (rest := [.int r]) ⟨hx, hb, hml, hown, hts⟩ hI hH (c_X12_lacking l E (xs (nI i + 1).toNatClampNeg) (xs (nI i + 2).toNatClampNeg) M1 u _ _ f2) (cwV 2 hts gL_law_X12_lacking rfl rfl rfl (by decide +kernel) ⟨Nat.le_of_ble_eq_true rfl, Nat.le_of_ble_eq_true rfl⟩) mt_T147 rfl rfl hl.1 rfl (Nat.le_of_ble_eq_true rfl) dL_law_736 ⟨Nat.le_of_ble_eq_true rfl, Nat.le_of_ble_eq_true rfl⟩) hS (fun H locs hH hS => ?_)
  exact lv_icmp_eq (tgt := 1661) hx hb dL_law_739 (by decide) (fun _ => kk M2 u H locs h2 hH hS) (fun c9 => absurd rfl c9)

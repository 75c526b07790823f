/-! THE LAW'S LOOP, AND ITS START -/
theorem la_in {i L : Nat} (hL : L ≤ 2560) (hi : i ≤ L + 5) (h : ¬ Int32.ofNat L - (5 : Int32) < nI i) : i + 5 ≤ L := by
  have h : ¬ nI L - nI 5 < nI i := h
  by_cases q : 5 ≤ L
  · rw [pk_sub q] at h
    by_cases z : L - 5 < i
    · exact absurd (nI_lt z (by omega)) h
    · omega
  · have h0 : nI L - nI 5 < 0 := by
      rcases (show L = 0 ∨ L = 1 ∨ L = 2 ∨ L = 3 ∨ L = 4 by omega) with rfl | rfl | rfl | rfl | rfl <;> decide
    exact absurd (Int32.lt_of_lt_of_le h0 (nI_le (a := 0) (Nat.zero_le i) (by omega))) h
theorem la_out : ∀ j, j < 64 → 53 ≤ j → (52 : Int) < (nI j).toInt := by decide +kernel
set_option maxHeartbeats 4000000 in
set_option maxRecDepth 100000 in
theorem la_loop {p : Program} {e : Env} {s : State} {mid : MethodId} {below : List Frame} {meth : Method} {c0 : Code} (l : Launch) {b L : Nat} {xs : Nat → Int32} (hL : L ≤ 2560) (C0 : lw_At p s mid meth c0 b L xs) {E : mt_E} (hE : E.2.2.2 = s.heap.size) (hI : mt_I E s) : ∀ (n i : Nat) (M : mt_M) (u : mt_U) (H : Heap) (locs : List Loc) (ls : Array Slot), L < i + 5 * n → i ≤ L + 5 → rl M → mt_H E M u H → va_S (mt_A E) s.heap H locs → lv_has ls 4 [(3, .int (nI i)), (0, .ref b), (1, .ref (E.2.1 0)), (2, .ref (E.2.1 147))] → W p l e room_1 s mid #[Value.ref b] below meth c0 H locs 164 2388 (lw_Z below #[Value.ref b] s) (F0 mid 18 ls []) := by
  obtain ⟨hx, hb, hr, hml, hown, hts0, hX, hbl, hlocks, hgv⟩ := id C0
  have hbA : ¬ (mt_A E) b := la_b hE hbl
  have done : ∀ (H : Heap) (locs : List Loc) (ls : Array Slot), va_S (mt_A E) s.heap H locs → W p l e room_1 s mid #[Value.ref b] below meth c0 H locs 164 2388 (lw_Z below #[Value.ref b] s) (F0 mid 1667 ls []) := by
    intro H locs ls hS
    refine lv_iconst (v := 1) hx hb dL_law_1667 (by decide) ?_
    refine va_forget (fun q hq => by have h := hS.2.2 q hq; unfold mt_A at h; rw [hE] at h; exact h) ?_
    refine W.widen (k := 600000) (n := 7302250) (Nat.le_of_ble_eq_true rfl) (Nat.le_of_ble_eq_true rfl) ?_
    exact lw_ret hx hb hr hlocks dL_law_1668
  intro n
  induction n with
  | zero =>
    intro i M u H locs ls h1 h2 hM hH hS hl
    refine lv_iload_n hx hb dL_law_18 rfl (lv_at hl 0 rfl) ?_
    refine lv_aload_n hx hb dL_law_19 rfl (lv_at hl 1 rfl) ?_
    refine va_slen hx hb hX hbl hbA hS dL_law_20 ?_
    refine lv_iconst (v := 5) hx hb dL_law_21 (by decide) ?_
    refine lv_isub hx hb dL_law_22 ?_
    refine lv_icmp_gt (tgt := 1667) hx hb dL_law_23 (by decide) (fun c1 => done H locs ls hS) (fun c1 => ?_)
    exact absurd (la_in hL h2 c1) (by omega)
  | succ n ih =>
    intro i M u H locs ls h1 h2 hM hH hS hl
    refine lv_iload_n hx hb dL_law_18 rfl (lv_at hl 0 rfl) ?_
    refine lv_aload_n hx hb dL_law_19 rfl (lv_at hl 1 rfl) ?_
    refine va_slen hx hb hX hbl hbA hS dL_law_20 ?_
    refine lv_iconst (v := 5) hx hb dL_law_21 (by decide) ?_
    refine lv_isub hx hb dL_law_22 ?_
    refine lv_icmp_gt (tgt := 1667) hx hb dL_law_23 (by decide) (fun c1 => done H locs ls hS) (fun c1 => ?_)
    have hi := la_in hL h2 c1
    have hin : vp_in (nI i) L := vp_in_nI (by omega) (by omega)
    have kk : ∀ (M' : mt_M) (u' : mt_U) (H' : Heap) (locs' : List Loc), rl M' → mt_H E M' u' H' → va_S (mt_A E) s.heap H' locs' → W p l e room_1 s mid #[Value.ref b] below meth c0 H' locs' 164 2388 (lw_Z below #[Value.ref b] s) (F0 mid 1661 ls []) := by
      intro M' u' H' locs' hM' hH' hS'
      refine lv_iinc (v := nI (i + 5)) (lv' := [(3, .int (nI (i + 5))), (0, .ref b), (1, .ref (E.2.1 0)), (2, .ref (E.2.1 147))]) hx hb dL_law_1661 hl (k := 0) rfl (nI_add i 5) (by decide) rfl (fun ls hl => ?_)
      refine lv_goto (tgt := 18) hx hb dL_law_1664 (by decide) ?_
      exact ih (i + 5) M' u' H' locs' ls (by omega) (by omega) hM' hH' hS' hl
    refine lv_aload_n hx hb dL_law_26 rfl (lv_at hl 1 rfl) ?_
    refine lv_iload_n hx hb dL_law_27 rfl (lv_at hl 0 rfl) ?_
    refine va_sld hx hb hX hbl hbA hS hin dL_law_28 ?_
    refine lv_bipush (v := 63) hx hb dL_law_29 (by decide) ?_
    refine lv_iand hx hb dL_law_31 ?_
    obtain ⟨j, hj, ej⟩ := pk_andE (xs (nI i).toNatClampNeg) (m := 63) 6 (by decide)
    rw [ej]
    clear ej
    by_cases hk : j < 53
    · match j, hk with
      | 0, _ => exact lv_tableIn (off := 228) (tgt := 260) hx hb dL_law_32 (by decide) (by decide) (by decide +kernel) (by decide) (la_0 l hL C0 hE hI hi hM hH hS hl kk)
      | 1, _ => exact lv_tableIn (off := 251) (tgt := 283) hx hb dL_law_32 (by decide) (by decide) (by decide +kernel) (by decide) (la_1 l hL C0 hE hI hi hM hH hS hl kk)
      | 2, _ => exact lv_tableIn (off := 264) (tgt := 296) hx hb dL_law_32 (by decide) (by decide) (by decide +kernel) (by decide) (la_2 l hL C0 hE hI hi hM hH hS hl kk)
      | 3, _ => exact lv_tableIn (off := 297) (tgt := 329) hx hb dL_law_32 (by decide) (by decide) (by decide +kernel) (by decide) (la_3 l hL C0 hE hI hi hM hH hS hl kk)
      | 4, _ => exact lv_tableIn (off := 340) (tgt := 372) hx hb dL_law_32 (by decide) (by decide) (by decide +kernel) (by decide) (la_4 l hL C0 hE hI hi hM hH hS hl kk)
      | 5, _ => exact lv_tableIn (off := 373) (tgt := 405) hx hb dL_law_32 (by decide) (by decide) (by decide +kernel) (by decide) (la_5 l hL C0 hE hI hi hM hH hS hl kk)
      | 6, _ => exact lv_tableIn (off := 416) (tgt := 448) hx hb dL_law_32 (by decide) (by decide) (by decide +kernel) (by decide) (la_6 l hL C0 hE hI hi hM hH hS hl kk)
      | 7, _ => exact lv_tableIn (off := 449) (tgt := 481) hx hb dL_law_32 (by decide) (by decide) (by decide +kernel) (by decide) (la_7 l hL C0 hE hI hi hM hH hS hl kk)
      | 8, _ => exact lv_tableIn (off := 482) (tgt := 514) hx hb dL_law_32 (by decide) (by decide) (by decide +kernel) (by decide) (la_8 l hL C0 hE hI hi hM hH hS hl kk)
      | 9, _ => exact lv_tableIn (off := 515) (tgt := 547) hx hb dL_law_32 (by decide) (by decide) (by decide +kernel) (by decide) (la_9 l hL C0 hE hI hi hM hH hS hl kk)
      | 10, _ => exact lv_tableIn (off := 538) (tgt := 570) hx hb dL_law_32 (by decide) (by decide) (by decide +kernel) (by decide) (la_10 l hL C0 hE hI hi hM hH hS hl kk)
      | 11, _ => exact lv_tableIn (off := 551) (tgt := 583) hx hb dL_law_32 (by decide) (by decide) (by decide +kernel) (by decide) (la_11 l hL C0 hE hI hi hM hH hS hl kk)
      | 12, _ => exact lv_tableIn (off := 564) (tgt := 596) hx hb dL_law_32 (by decide) (by decide) (by decide +kernel) (by decide) (la_12 l hL C0 hE hI hi hM hH hS hl kk)
      | 13, _ => exact lv_tableIn (off := 577) (tgt := 609) hx hb dL_law_32 (by decide) (by decide) (by decide +kernel) (by decide) (la_13 l hL C0 hE hI hi hM hH hS hl kk)
      | 14, _ => exact lv_tableIn (off := 590) (tgt := 622) hx hb dL_law_32 (by decide) (by decide) (by decide +kernel) (by decide) (la_14 l hL C0 hE hI hi hM hH hS hl kk)
      | 15, _ => exact lv_tableIn (off := 623) (tgt := 655) hx hb dL_law_32 (by decide) (by decide) (by decide +kernel) (by decide) (la_15 l hL C0 hE hI hi hM hH hS hl kk)
      | 16, _ => exact lv_tableIn (off := 646) (tgt := 678) hx hb dL_law_32 (by decide) (by decide) (by decide +kernel) (by decide) (la_16 l hL C0 hE hI hi hM hH hS hl kk)
      | 17, _ => exact lv_tableIn (off := 679) (tgt := 711) hx hb dL_law_32 (by decide) (by decide) (by decide +kernel) (by decide) (la_17 l hL C0 hE hI hi hM hH hS hl kk)
      | 18, _ => exact lv_tableIn (off := 712) (tgt := 744) hx hb dL_law_32 (by decide) (by decide) (by decide +kernel) (by decide) (la_18 l hL C0 hE hI hi hM hH hS hl kk)
      | 19, _ => exact lv_tableIn (off := 735) (tgt := 767) hx hb dL_law_32 (by decide) (by decide) (by decide +kernel) (by decide) (la_19 l hL C0 hE hI hi hM hH hS hl kk)
      | 20, _ => exact lv_tableIn (off := 748) (tgt := 780) hx hb dL_law_32 (by decide) (by decide) (by decide +kernel) (by decide) (la_20 l hL C0 hE hI hi hM hH hS hl kk)
      | 21, _ => exact lv_tableIn (off := 781) (tgt := 813) hx hb dL_law_32 (by decide) (by decide) (by decide +kernel) (by decide) (la_21 l hL C0 hE hI hi hM hH hS hl kk)
      | 22, _ => exact lv_tableIn (off := 814) (tgt := 846) hx hb dL_law_32 (by decide) (by decide) (by decide +kernel) (by decide) (la_22 l hL C0 hE hI hi hM hH hS hl kk)
      | 23, _ => exact lv_tableIn (off := 867) (tgt := 899) hx hb dL_law_32 (by decide) (by decide) (by decide +kernel) (by decide) (la_23 l hL C0 hE hI hi hM hH hS hl kk)
      | 24, _ => exact lv_tableIn (off := 890) (tgt := 922) hx hb dL_law_32 (by decide) (by decide) (by decide +kernel) (by decide) (la_24 l hL C0 hE hI hi hM hH hS hl kk)
      | 25, _ => exact lv_tableIn (off := 933) (tgt := 965) hx hb dL_law_32 (by decide) (by decide) (by decide +kernel) (by decide) (la_25 l hL C0 hE hI hi hM hH hS hl kk)
      | 26, _ => exact lv_tableIn (off := 987) (tgt := 1019) hx hb dL_law_32 (by decide) (by decide) (by decide +kernel) (by decide) (la_26 l hL C0 hE hI hi hM hH hS hl kk)
      | 27, _ => exact lv_tableIn (off := 1031) (tgt := 1063) hx hb dL_law_32 (by decide) (by decide) (by decide +kernel) (by decide) (la_27 l hL C0 hE hI hi hM hH hS hl kk)
      | 28, _ => exact lv_tableIn (off := 1074) (tgt := 1106) hx hb dL_law_32 (by decide) (by decide) (by decide +kernel) (by decide) (la_28 l hL C0 hE hI hi hM hH hS hl kk)
      | 29, _ => exact lv_tableIn (off := 1097) (tgt := 1129) hx hb dL_law_32 (by decide) (by decide) (by decide +kernel) (by decide) (la_29 l hL C0 hE hI hi hM hH hS hl kk)
      | 30, _ => exact lv_tableIn (off := 1130) (tgt := 1162) hx hb dL_law_32 (by decide) (by decide) (by decide +kernel) (by decide) (la_30 l hL C0 hE hI hi hM hH hS hl kk)
      | 31, _ => exact lv_tableIn (off := 1153) (tgt := 1185) hx hb dL_law_32 (by decide) (by decide) (by decide +kernel) (by decide) (la_31 l hL C0 hE hI hi hM hH hS hl kk)
      | 32, _ => exact lv_tableIn (off := 1186) (tgt := 1218) hx hb dL_law_32 (by decide) (by decide) (by decide +kernel) (by decide) (la_32 l hL C0 hE hI hi hM hH hS hl kk)
      | 33, _ => exact lv_tableIn (off := 1199) (tgt := 1231) hx hb dL_law_32 (by decide) (by decide) (by decide +kernel) (by decide) (la_33 l hL C0 hE hI hi hM hH hS hl kk)
      | 34, _ => exact lv_tableIn (off := 1212) (tgt := 1244) hx hb dL_law_32 (by decide) (by decide) (by decide +kernel) (by decide) (la_34 l hL C0 hE hI hi hM hH hS hl kk)
      | 35, _ => exact lv_tableIn (off := 1225) (tgt := 1257) hx hb dL_law_32 (by decide) (by decide) (by decide +kernel) (by decide) (la_35 l hL C0 hE hI hi hM hH hS hl kk)
      | 36, _ => exact lv_tableIn (off := 1238) (tgt := 1270) hx hb dL_law_32 (by decide) (by decide) (by decide +kernel) (by decide) (la_36 l hL C0 hE hI hi hM hH hS hl kk)
      | 37, _ => exact lv_tableIn (off := 1271) (tgt := 1303) hx hb dL_law_32 (by decide) (by decide) (by decide +kernel) (by decide) (la_37 l hL C0 hE hI hi hM hH hS hl kk)
      | 38, _ => exact lv_tableIn (off := 1304) (tgt := 1336) hx hb dL_law_32 (by decide) (by decide) (by decide +kernel) (by decide) (la_38 l hL C0 hE hI hi hM hH hS hl kk)
      | 39, _ => exact lv_tableIn (off := 1337) (tgt := 1369) hx hb dL_law_32 (by decide) (by decide) (by decide +kernel) (by decide) (la_39 l hL C0 hE hI hi hM hH hS hl kk)
      | 40, _ => exact lv_tableIn (off := 1360) (tgt := 1392) hx hb dL_law_32 (by decide) (by decide) (by decide +kernel) (by decide) (la_40 l hL C0 hE hI hi hM hH hS hl kk)
      | 41, _ => exact lv_tableIn (off := 1383) (tgt := 1415) hx hb dL_law_32 (by decide) (by decide) (by decide +kernel) (by decide) (la_41 l hL C0 hE hI hi hM hH hS hl kk)
      | 42, _ => exact lv_tableIn (off := 1406) (tgt := 1438) hx hb dL_law_32 (by decide) (by decide) (by decide +kernel) (by decide) (la_42 l hL C0 hE hI hi hM hH hS hl kk)
      | 43, _ => exact lv_tableIn (off := 1419) (tgt := 1451) hx hb dL_law_32 (by decide) (by decide) (by decide +kernel) (by decide) (la_43 l hL C0 hE hI hi hM hH hS hl kk)
      | 44, _ => exact lv_tableIn (off := 1442) (tgt := 1474) hx hb dL_law_32 (by decide) (by decide) (by decide +kernel) (by decide) (la_44 l hL C0 hE hI hi hM hH hS hl kk)
      | 45, _ => exact lv_tableIn (off := 1465) (tgt := 1497) hx hb dL_law_32 (by decide) (by decide) (by decide +kernel) (by decide) (la_45 l hL C0 hE hI hi hM hH hS hl kk)
      | 46, _ => exact lv_tableIn (off := 1478) (tgt := 1510) hx hb dL_law_32 (by decide) (by decide) (by decide +kernel) (by decide) (la_46 l hL C0 hE hI hi hM hH hS hl kk)
      | 47, _ => exact lv_tableIn (off := 1501) (tgt := 1533) hx hb dL_law_32 (by decide) (by decide) (by decide +kernel) (by decide) (la_47 l hL C0 hE hI hi hM hH hS hl kk)
      | 48, _ => exact lv_tableIn (off := 1524) (tgt := 1556) hx hb dL_law_32 (by decide) (by decide) (by decide +kernel) (by decide) (la_48 l hL C0 hE hI hi hM hH hS hl kk)
      | 49, _ => exact lv_tableIn (off := 1537) (tgt := 1569) hx hb dL_law_32 (by decide) (by decide) (by decide +kernel) (by decide) (la_49 l hL C0 hE hI hi hM hH hS hl kk)
      | 50, _ => exact lv_tableIn (off := 1580) (tgt := 1612) hx hb dL_law_32 (by decide) (by decide) (by decide +kernel) (by decide) (la_50 l hL C0 hE hI hi hM hH hS hl kk)
      | 51, _ => exact lv_tableIn (off := 1593) (tgt := 1625) hx hb dL_law_32 (by decide) (by decide) (by decide +kernel) (by decide) (la_51 l hL C0 hE hI hi hM hH hS hl kk)
      | 52, _ => exact lv_tableIn (off := 1606) (tgt := 1638) hx hb dL_law_32 (by decide) (by decide) (by decide +kernel) (by decide) (la_52 l hL C0 hE hI hi hM hH hS hl kk)
      | j + 53, hk => exact absurd hk (by omega)
    · exact lv_tableOut (tgt := 1661) hx hb dL_law_32 (Or.inr (la_out j hj (by omega))) (by decide) (kk M u H locs hM hH hS)
set_option maxHeartbeats 4000000 in
set_option maxRecDepth 100000 in
/-- THE LAW, from its entry -/
theorem whole_start {p : Program} {e : Env} {s : State} {m : MethodId} {below : List Frame} {meth : Method} {c : Code} (l : Launch) (hflags : l.flags = flags0) {b L : Nat} {xs : Nat → Int32} (hL : L ≤ 2560) (C0 : lw_At p s m meth c b L xs) : W p l e room_1 s m #[Value.ref b] below meth c s.heap [] 0 0 (lw_Z below #[Value.ref b] s) (entryFrame m ([Value.ref b] : List Value).toArray 4) := by
  obtain ⟨hx, hb, hr, hml, hown, hts0, hX, hbl, hlocks, hgv⟩ := id C0
  have hown : s.vm.findClass RL = some m.cls := hown
  have hts : ∀ w ∈ wsL_law, w.before #[Value.ref b] s = true := fun w h => hts0 w (wsL_law_in w h)
  obtain ⟨G, t, hGG⟩ := pc_start hts0
  have hG := hGG (fun _ => 0) s.heap.size
  generalize hE0 : ((G, (fun _ => 0), t, s.heap.size) : mt_E) = E0 at hG
  have g1 : E0.1 = G := by rw [← hE0]
  have g2 : E0.2.2.1 = t := by rw [← hE0]
  have hA : ∀ q : Nat, s.heap.size ≤ q → (fun q : Nat => s.heap.size ≤ q) q := fun _ h => h
  have hS : va_S (fun q : Nat => s.heap.size ≤ q) s.heap s.heap [] := va_S.rf
  have hP : va_P E0.1 vwCl [] s.heap := fun k q h => by simp at h
  have hD : va_D (fun q : Nat => s.heap.size ≤ q) [] := ⟨fun i j p q h => by simp at h, fun k q h => by simp at h⟩
  have hl := lv_entry ([.ref b]) (n := 4) (Nat.le_of_ble_eq_true rfl)
  rw [lg_entry_eq]
  generalize (lg_sl ([.ref b]) ++ List.replicate (4 - (lg_sl ([.ref b])).length) Slot.unset).toArray = ls at hl ⊢
  have hl : lv_has ls 4 [(0, .ref b)] := hl
  refine va_new (ci := 11) (fs := [.null, .null, .null, .int 0, .null, .null, .null, .null, .int 0, .null]) (C := RX11) (T := TX11) (N := 10) hx hb hts inlX11 tyX11 tyX11_ok hown (hts0 (.classLink RL 7 RX11) (List.mem_append_right _ (List.mem_of_getElem? (i := 17) (by decide +kernel)))) (hts0 (.instantiable RX11 10) (List.mem_append_right _ (List.mem_of_getElem? (i := 18) (by decide +kernel)))) (hts0 (.initialized RX11) (List.mem_append_right _ (List.mem_of_getElem? (i := 1) (by decide +kernel)))) hG.1.1 hP hD hS hA rfl (fun j hj => by rcases (show j = 0 ∨ j = 1 ∨ j = 2 ∨ j = 3 ∨ j = 4 ∨ j = 5 ∨ j = 6 ∨ j = 7 ∨ j = 8 ∨ j = 9 by omega) with rfl | rfl | rfl | rfl | rfl | rfl | rfl | rfl | rfl | rfl <;> rfl) (Nat.le_of_ble_eq_true rfl) (Nat.le_of_ble_eq_true rfl) dL_law_0 (fun x H hP hD hS => ?_)
  refine lv_dup hx hb dL_law_3 rfl ?_
  refine pc_call (va_runI (As := []) (rest := [.ref x]) ⟨hx, hb, hml, hown, hts⟩ (c_X11_init l E0 x H.size) (cwI 0 hts gL_law_X11_init rfl rfl rfl (hts0 (.initialized RX11) (List.mem_append_right _ (List.mem_of_getElem? (i := 1) (by decide +kernel)))) (hts0 (.methodLink RL 9 yX11_init) (List.mem_append_right _ (List.mem_of_getElem? (i := 19) (by decide +kernel)))) (hts0 (.instanceMethod yX11_init) (List.mem_append_right _ (List.mem_of_getElem? (i := 20) (by decide +kernel)))) rfl (by decide +kernel) ⟨Nat.le_of_ble_eq_true rfl, Nat.le_of_ble_eq_true rfl⟩) (pc_pre hG hP) rfl rfl hl.1 rfl (lv_room (Nat.le_of_ble_eq_true rfl)) dL_law_4 ⟨Nat.le_of_ble_eq_true rfl, Nat.le_of_ble_eq_true rfl⟩) hP hD hS hA (fun a1 H locs hP hD hS => ?_)
  refine W.widen (k := 147) (n := 1144) (Nat.le_of_ble_eq_true rfl) (Nat.le_of_ble_eq_true rfl) ?_
  refine lv_astore_n (lv' := [(1, .ref x), (0, .ref b)]) hx hb dL_law_7 rfl hl (by decide) rfl (fun ls hl => ?_)
  refine va_new (ci := 12) (fs := [.null, .null, .null, .null, .null, .null, .null, .null, .int 0, .int 0, .int 0, .int 0, .null, .null, .null, .null, .int 0, .int 0, .int 0, .null, .int 0, .int 0, .int 0, .int 0, .int 0, .null, .null, .int 0, .null]) (C := RX12) (T := TX12) (N := 29) hx hb hts inlX12 tyX12 tyX12_ok hown (hts0 (.classLink RL 10 RX12) (List.mem_append_right _ (List.mem_of_getElem? (i := 1006) (by decide +kernel)))) (hts0 (.instantiable RX12 29) (List.mem_append_right _ (List.mem_of_getElem? (i := 1007) (by decide +kernel)))) (hts0 (.initialized RX12) (List.mem_append_right _ (List.mem_of_getElem? (i := 13) (by decide +kernel)))) hG.1.1 hP hD hS hA rfl (fun j hj => by rcases (show j = 0 ∨ j = 1 ∨ j = 2 ∨ j = 3 ∨ j = 4 ∨ j = 5 ∨ j = 6 ∨ j = 7 ∨ j = 8 ∨ j = 9 ∨ j = 10 ∨ j = 11 ∨ j = 12 ∨ j = 13 ∨ j = 14 ∨ j = 15 ∨ j = 16 ∨ j = 17 ∨ j = 18 ∨ j = 19 ∨ j = 20 ∨ j = 21 ∨ j = 22 ∨ j = 23 ∨ j = 24 ∨ j = 25 ∨ j = 26 ∨ j = 27 ∨ j = 28 by omega) with rfl | rfl | rfl | rfl | rfl | rfl | rfl | rfl | rfl | rfl | rfl | rfl | rfl | rfl | rfl | rfl | rfl | rfl | rfl | rfl | rfl | rfl | rfl | rfl | rfl | rfl | rfl | rfl | rfl <;> rfl) (Nat.le_of_ble_eq_true rfl) (Nat.le_of_ble_eq_true rfl) dL_law_8 (fun y H hP hD hS => ?_)
  refine lv_dup hx hb dL_law_11 rfl ?_
  refine pc_call (va_runI (As := []) (rest := [.ref y]) ⟨hx, hb, hml, hown, hts⟩ (c_X12_init l E0 y H.size) (cwI 0 hts gL_law_X12_init rfl rfl rfl (hts0 (.initialized RX12) (List.mem_append_right _ (List.mem_of_getElem? (i := 13) (by decide +kernel)))) (hts0 (.methodLink RL 12 yX12_init) (List.mem_append_right _ (List.mem_of_getElem? (i := 1008) (by decide +kernel)))) (hts0 (.instanceMethod yX12_init) (List.mem_append_right _ (List.mem_of_getElem? (i := 1009) (by decide +kernel)))) rfl (by decide +kernel) ⟨Nat.le_of_ble_eq_true rfl, Nat.le_of_ble_eq_true rfl⟩) (pc_pre hG hP) rfl rfl hl.1 rfl (lv_room (Nat.le_of_ble_eq_true rfl)) dL_law_12 ⟨Nat.le_of_ble_eq_true rfl, Nat.le_of_ble_eq_true rfl⟩) hP hD hS hA (fun a2 H locs hP hD hS => ?_)
  refine W.widen (k := 164) (n := 2388) (Nat.le_of_ble_eq_true rfl) (Nat.le_of_ble_eq_true rfl) ?_
  refine lv_astore_n (lv' := [(2, .ref y), (1, .ref x), (0, .ref b)]) hx hb dL_law_15 rfl hl (by decide) rfl (fun ls hl => ?_)
  refine lv_iconst (v := 0) hx hb dL_law_16 (by decide) ?_
  refine lv_istore_n (lv' := [(3, .int (nI 0)), (2, .ref y), (1, .ref x), (0, .ref b)]) hx hb dL_law_17 rfl hl (by decide) rfl (fun ls hl => ?_)
  rw [g1, g2] at hP
  rw [g2] at hD
  have hP : va_P G vwCl (pc_mt t (pc_c x a1) ++ pc_md t (pc_c y a2)) H := hP
  have hD : va_D (fun q : Nat => s.heap.size ≤ q) (pc_mt t (pc_c x a1) ++ pc_md t (pc_c y a2)) := hD
  obtain ⟨ad, e0, e1, eW⟩ := pc_all t x y a1 a2
  subst e0 e1
  have hP : va_P G vwCl (mt_ws (G, ad, t, s.heap.size) (fun _ _ => 0) (fun _ => 0)) H := by rw [eW]; exact hP
  have hD : va_D (fun q : Nat => s.heap.size ≤ q) (mt_ws (G, ad, t, s.heap.size) (fun _ _ => 0) (fun _ => 0)) := by rw [eW]; exact hD
  exact la_loop (E := (G, ad, t, s.heap.size)) l hL C0 rfl (hGG ad s.heap.size).1 (L + 1) 0 (fun _ _ => 0) (fun _ => 0) H _ ls (by omega) (by omega) rl_0 ⟨hP, hD⟩ hS (lv_sub hl [0, 3, 2, 1] rfl)

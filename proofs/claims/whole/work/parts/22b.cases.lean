/-! THE LAW'S CASES -/
set_option maxHeartbeats 4000000 in
set_option maxRecDepth 100000 in
/-- runsOut -/
theorem la_18 {p : Program} {e : Env} {s : State} {mid : MethodId} {below : List Frame} {meth : Method} {c0 : Code} (l : Launch) {b L : Nat} {xs : Nat → Int32} (hL : L ≤ 2560) (C0 : lw_At p s mid meth c0 b L xs) {E : mt_E} (hE : E.2.2.2 = s.heap.size) (hI : mt_I E s) {i : Nat} (hi : i + 5 ≤ L) {M : mt_M} {u : mt_U} (hM : rl M) {H : Heap} {locs : List Loc} {ls : Array Slot} (hH : mt_H E M u H) (hS : va_S (mt_A E) s.heap H locs) (hl : lv_has ls 4 [(3, .int (nI i)), (0, .ref b), (1, .ref (E.2.1 0)), (2, .ref (E.2.1 147))]) (kk : ∀ (M' : mt_M) (u' : mt_U) (H' : Heap) (locs' : List Loc), rl M' → mt_H E M' u' H' → va_S (mt_A E) s.heap H' locs' → W p l e room_1 s mid #[Value.ref b] below meth c0 H' locs' 164 2388 (lw_Z below #[Value.ref b] s) (F0 mid 1661 ls [])) : W p l e room_1 s mid #[Value.ref b] below meth c0 H locs 164 2388 (lw_Z below #[Value.ref b] s) (F0 mid 744 ls []) := by
  obtain ⟨hx, hb, hr, hml, hown, hts0, hX, hbl, hlocks, hgv⟩ := id C0
  have hown : s.vm.findClass RL = some mid.cls := hown
  have hts : ∀ w ∈ wsL_law, w.before #[Value.ref b] s = true := fun w h => hts0 w (wsL_law_in w h)
  have hbA : ¬ (mt_A E) b := la_b hE hbl
  have n1 : vp_in (nI i + 1) L := la_n1 hL hi
  obtain ⟨r, M1, M2, f1, f2, h2⟩ := cl_runsOut (xs (nI i + 1).toNatClampNeg) M hM
  refine lv_aload_n hx hb dL_law_744 rfl (lv_at hl 2 rfl) ?_
  refine lv_aload_n hx hb dL_law_745 rfl (lv_at hl 1 rfl) ?_
  refine lv_iload_n hx hb dL_law_746 rfl (lv_at hl 0 rfl) ?_
  refine lv_iconst (v := 1) hx hb dL_law_747 (by decide) ?_
  refine lv_iadd hx hb dL_law_748 ?_
  refine va_sld hx hb hX hbl hbA hS n1 dL_law_749 ?_
  refine mt_goi (mt_runV (i := 0) (As := [.int (xs (nI i + 1).toNatClampNeg)]) (rest := []) ⟨hx, hb, hml, hown, hts⟩ hI hH (c_X11_runsOut l E (xs (nI i + 1).toNatClampNeg) M u _ _ f1) (cwV 1 hts gL_law_X11_runsOut rfl rfl rfl (by decide +kernel) ⟨Nat.le_of_ble_eq_true rfl, Nat.le_of_ble_eq_true rfl⟩) mt_T0 rfl rfl hl.1 rfl (Nat.le_of_ble_eq_true rfl) dL_law_750 ⟨Nat.le_of_ble_eq_true rfl, Nat.le_of_ble_eq_true rfl⟩) hS (fun H locs hH hS => ?_)
  refine lv_aload_n hx hb dL_law_753 rfl (lv_at hl 3 rfl) ?_
  refine lv_aload_n hx hb dL_law_754 rfl (lv_at hl 1 rfl) ?_
  refine lv_iload_n hx hb dL_law_755 rfl (lv_at hl 0 rfl) ?_
  refine lv_iconst (v := 1) hx hb dL_law_756 (by decide) ?_
  refine lv_iadd hx hb dL_law_757 ?_
  refine va_sld hx hb hX hbl hbA hS n1 dL_law_758 ?_
  refine mt_goi (mt_runV (i := 147) (As := [.int (xs (nI i + 1).toNatClampNeg)]) (rest := [.int r]) ⟨hx, hb, hml, hown, hts⟩ hI hH (c_X12_runsOut l E (xs (nI i + 1).toNatClampNeg) M1 u _ _ f2) (cwV 1 hts gL_law_X12_runsOut rfl rfl rfl (by decide +kernel) ⟨Nat.le_of_ble_eq_true rfl, Nat.le_of_ble_eq_true rfl⟩) mt_T147 rfl rfl hl.1 rfl (Nat.le_of_ble_eq_true rfl) dL_law_759 ⟨Nat.le_of_ble_eq_true rfl, Nat.le_of_ble_eq_true rfl⟩) hS (fun H locs hH hS => ?_)
  exact lv_icmp_eq (tgt := 1661) hx hb dL_law_762 (by decide) (fun _ => kk M2 u H locs h2 hH hS) (fun c9 => absurd rfl c9)
set_option maxHeartbeats 4000000 in
set_option maxRecDepth 100000 in
/-- firstOut -/
theorem la_19 {p : Program} {e : Env} {s : State} {mid : MethodId} {below : List Frame} {meth : Method} {c0 : Code} (l : Launch) {b L : Nat} {xs : Nat → Int32} (hL : L ≤ 2560) (C0 : lw_At p s mid meth c0 b L xs) {E : mt_E} (hE : E.2.2.2 = s.heap.size) (hI : mt_I E s) {i : Nat} (hi : i + 5 ≤ L) {M : mt_M} {u : mt_U} (hM : rl M) {H : Heap} {locs : List Loc} {ls : Array Slot} (hH : mt_H E M u H) (hS : va_S (mt_A E) s.heap H locs) (hl : lv_has ls 4 [(3, .int (nI i)), (0, .ref b), (1, .ref (E.2.1 0)), (2, .ref (E.2.1 147))]) (kk : ∀ (M' : mt_M) (u' : mt_U) (H' : Heap) (locs' : List Loc), rl M' → mt_H E M' u' H' → va_S (mt_A E) s.heap H' locs' → W p l e room_1 s mid #[Value.ref b] below meth c0 H' locs' 164 2388 (lw_Z below #[Value.ref b] s) (F0 mid 1661 ls [])) : W p l e room_1 s mid #[Value.ref b] below meth c0 H locs 164 2388 (lw_Z below #[Value.ref b] s) (F0 mid 767 ls []) := by
  obtain ⟨hx, hb, hr, hml, hown, hts0, hX, hbl, hlocks, hgv⟩ := id C0
  have hown : s.vm.findClass RL = some mid.cls := hown
  have hts : ∀ w ∈ wsL_law, w.before #[Value.ref b] s = true := fun w h => hts0 w (wsL_law_in w h)
  have hbA : ¬ (mt_A E) b := la_b hE hbl
  obtain ⟨r, M1, M2, f1, f2, h2⟩ := cl_firstOut  M hM
  refine lv_aload_n hx hb dL_law_767 rfl (lv_at hl 2 rfl) ?_
  refine mt_goi (mt_runV (i := 0) (As := []) (rest := []) ⟨hx, hb, hml, hown, hts⟩ hI hH (c_X11_firstOut l E  M u _ _ f1) (cwV 0 hts gL_law_X11_firstOut rfl rfl rfl (by decide +kernel) ⟨Nat.le_of_ble_eq_true rfl, Nat.le_of_ble_eq_true rfl⟩) mt_T0 rfl rfl hl.1 rfl (Nat.le_of_ble_eq_true rfl) dL_law_768 ⟨Nat.le_of_ble_eq_true rfl, Nat.le_of_ble_eq_true rfl⟩) hS (fun H locs hH hS => ?_)
  refine lv_aload_n hx hb dL_law_771 rfl (lv_at hl 3 rfl) ?_
  refine mt_goi (mt_runV (i := 147) (As := []) (rest := [.int r]) ⟨hx, hb, hml, hown, hts⟩ hI hH (c_X12_firstOut l E  M1 u _ _ f2) (cwV 0 hts gL_law_X12_firstOut rfl rfl rfl (by decide +kernel) ⟨Nat.le_of_ble_eq_true rfl, Nat.le_of_ble_eq_true rfl⟩) mt_T147 rfl rfl hl.1 rfl (Nat.le_of_ble_eq_true rfl) dL_law_772 ⟨Nat.le_of_ble_eq_true rfl, Nat.le_of_ble_eq_true rfl⟩) hS (fun H locs hH hS => ?_)
  exact lv_icmp_eq (tgt := 1661) hx hb dL_law_775 (by decide) (fun _ => kk M2 u H locs h2 hH hS) (fun c9 => absurd rfl c9)
set_option maxHeartbeats 4000000 in
set_option maxRecDepth 100000 in
/-- buyFor -/
theorem la_20 {p : Program} {e : Env} {s : State} {mid : MethodId} {below : List Frame} {meth : Method} {c0 : Code} (l : Launch) {b L : Nat} {xs : Nat → Int32} (hL : L ≤ 2560) (C0 : lw_At p s mid meth c0 b L xs) {E : mt_E} (hE : E.2.2.2 = s.heap.size) (hI : mt_I E s) {i : Nat} (hi : i + 5 ≤ L) {M : mt_M} {u : mt_U} (hM : rl M) {H : Heap} {locs : List Loc} {ls : Array Slot} (hH : mt_H E M u H) (hS : va_S (mt_A E) s.heap H locs) (hl : lv_has ls 4 [(3, .int (nI i)), (0, .ref b), (1, .ref (E.2.1 0)), (2, .ref (E.2.1 147))]) (kk : ∀ (M' : mt_M) (u' : mt_U) (H' : Heap) (locs' : List Loc), rl M' → mt_H E M' u' H' → va_S (mt_A E) s.heap H' locs' → W p l e room_1 s mid #[Value.ref b] below meth c0 H' locs' 164 2388 (lw_Z below #[Value.ref b] s) (F0 mid 1661 ls [])) : W p l e room_1 s mid #[Value.ref b] below meth c0 H locs 164 2388 (lw_Z below #[Value.ref b] s) (F0 mid 780 ls []) := by
  obtain ⟨hx, hb, hr, hml, hown, hts0, hX, hbl, hlocks, hgv⟩ := id C0
  have hown : s.vm.findClass RL = some mid.cls := hown
  have hts : ∀ w ∈ wsL_law, w.before #[Value.ref b] s = true := fun w h => hts0 w (wsL_law_in w h)
  have hbA : ¬ (mt_A E) b := la_b hE hbl
  have n1 : vp_in (nI i + 1) L := la_n1 hL hi
  have n2 : vp_in (nI i + 2) L := la_n2 hL hi
  obtain ⟨r, M1, M2, f1, f2, h2⟩ := cl_buyFor (xs (nI i + 1).toNatClampNeg) (xs (nI i + 2).toNatClampNeg) M hM
  refine lv_aload_n hx hb dL_law_780 rfl (lv_at hl 2 rfl) ?_
  refine lv_aload_n hx hb dL_law_781 rfl (lv_at hl 1 rfl) ?_
  refine lv_iload_n hx hb dL_law_782 rfl (lv_at hl 0 rfl) ?_
  refine lv_iconst (v := 1) hx hb dL_law_783 (by decide) ?_
  refine lv_iadd hx hb dL_law_784 ?_
  refine va_sld hx hb hX hbl hbA hS n1 dL_law_785 ?_
  refine lv_aload_n hx hb dL_law_786 rfl (lv_at hl 1 rfl) ?_
  refine lv_iload_n hx hb dL_law_787 rfl (lv_at hl 0 rfl) ?_
  refine lv_iconst (v := 2) hx hb dL_law_788 (by decide) ?_
  refine lv_iadd hx hb dL_law_789 ?_
  refine va_sld hx hb hX hbl hbA hS n2 dL_law_790 ?_
  refine mt_goi (mt_runV (i := 0) (As := [.int (xs (nI i + 1).toNatClampNeg), .int (xs (nI i + 2).toNatClampNeg)]) (rest := []) ⟨hx, hb, hml, hown, hts⟩ hI hH (c_X11_buyFor l E (xs (nI i + 1).toNatClampNeg) (xs (nI i + 2).toNatClampNeg) M u _ _ f1) (cwV 2 hts gL_law_X11_buyFor rfl rfl rfl (by decide +kernel) ⟨Nat.le_of_ble_eq_true rfl, Nat.le_of_ble_eq_true rfl⟩) mt_T0 rfl rfl hl.1 rfl (Nat.le_of_ble_eq_true rfl) dL_law_791 ⟨Nat.le_of_ble_eq_true rfl, Nat.le_of_ble_eq_true rfl⟩) hS (fun H locs hH hS => ?_)
  refine lv_aload_n hx hb dL_law_794 rfl (lv_at hl 3 rfl) ?_
  refine lv_aload_n hx hb dL_law_795 rfl (lv_at hl 1 rfl) ?_
  refine lv_iload_n hx hb dL_law_796 rfl (lv_at hl 0 rfl) ?_
  refine lv_iconst (v := 1) hx hb dL_law_797 (by decide) ?_
  refine lv_iadd hx hb dL_law_798 ?_
  refine va_sld hx hb hX hbl hbA hS n1 dL_law_799 ?_
  refine lv_aload_n hx hb dL_law_800 rfl (lv_at hl 1 rfl) ?_
  refine lv_iload_n hx hb dL_law_801 rfl (lv_at hl 0 rfl) ?_
  refine lv_iconst (v := 2) hx hb dL_law_802 (by decide) ?_
  refine lv_iadd hx hb dL_law_803 ?_
  refine va_sld hx hb hX hbl hbA hS n2 dL_law_804 ?_
  refine mt_goi (mt_runV (i := 147) (As := [.int (xs (nI i + 1).toNatClampNeg), .int (xs (nI i + 2).toNatClampNeg)]) (rest := [.int r]) ⟨hx, hb, hml, hown, hts⟩ hI hH (c_X12_buyFor l E (xs (nI i + 1).toNatClampNeg) (xs (nI i + 2).toNatClampNeg) M1 u _ _ f2) (cwV 2 hts gL_law_X12_buyFor rfl rfl rfl (by decide +kernel) ⟨Nat.le_of_ble_eq_true rfl, Nat.le_of_ble_eq_true rfl⟩) mt_T147 rfl rfl hl.1 rfl (Nat.le_of_ble_eq_true rfl) dL_law_805 ⟨Nat.le_of_ble_eq_true rfl, Nat.le_of_ble_eq_true rfl⟩) hS (fun H locs hH hS => ?_)
  exact lv_icmp_eq (tgt := 1661) hx hb dL_law_808 (by decide) (fun _ => kk M2 u H locs h2 hH hS) (fun c9 => absurd rfl c9)
set_option maxHeartbeats 4000000 in
set_option maxRecDepth 100000 in
/-- order -/
theorem la_21 {p : Program} {e : Env} {s : State} {mid : MethodId} {below : List Frame} {meth : Method} {c0 : Code} (l : Launch) {b L : Nat} {xs : Nat → Int32} (hL : L ≤ 2560) (C0 : lw_At p s mid meth c0 b L xs) {E : mt_E} (hE : E.2.2.2 = s.heap.size) (hI : mt_I E s) {i : Nat} (hi : i + 5 ≤ L) {M : mt_M} {u : mt_U} (hM : rl M) {H : Heap} {locs : List Loc} {ls : Array Slot} (hH : mt_H E M u H) (hS : va_S (mt_A E) s.heap H locs) (hl : lv_has ls 4 [(3, .int (nI i)), (0, .ref b), (1, .ref (E.2.1 0)), (2, .ref (E.2.1 147))]) (kk : ∀ (M' : mt_M) (u' : mt_U) (H' : Heap) (locs' : List Loc), rl M' → mt_H E M' u' H' → va_S (mt_A E) s.heap H' locs' → W p l e room_1 s mid #[Value.ref b] below meth c0 H' locs' 164 2388 (lw_Z below #[Value.ref b] s) (F0 mid 1661 ls [])) : W p l e room_1 s mid #[Value.ref b] below meth c0 H locs 164 2388 (lw_Z below #[Value.ref b] s) (F0 mid 813 ls []) := by
  obtain ⟨hx, hb, hr, hml, hown, hts0, hX, hbl, hlocks, hgv⟩ := id C0
  have hown : s.vm.findClass RL = some mid.cls := hown
  have hts : ∀ w ∈ wsL_law, w.before #[Value.ref b] s = true := fun w h => hts0 w (wsL_law_in w h)
  have hbA : ¬ (mt_A E) b := la_b hE hbl
  have n1 : vp_in (nI i + 1) L := la_n1 hL hi
  have n2 : vp_in (nI i + 2) L := la_n2 hL hi
  obtain ⟨r, M1, M2, f1, f2, h2⟩ := cl_order (xs (nI i + 1).toNatClampNeg) (xs (nI i + 2).toNatClampNeg) M hM
  refine lv_aload_n hx hb dL_law_813 rfl (lv_at hl 2 rfl) ?_
  refine lv_aload_n hx hb dL_law_814 rfl (lv_at hl 1 rfl) ?_
  refine lv_iload_n hx hb dL_law_815 rfl (lv_at hl 0 rfl) ?_
  refine lv_iconst (v := 1) hx hb dL_law_816 (by decide) ?_
  refine lv_iadd hx hb dL_law_817 ?_
  refine va_sld hx hb hX hbl hbA hS n1 dL_law_818 ?_
  refine lv_aload_n hx hb dL_law_819 rfl (lv_at hl 1 rfl) ?_
  refine lv_iload_n hx hb dL_law_820 rfl (lv_at hl 0 rfl) ?_
  refine lv_iconst (v := 2) hx hb dL_law_821 (by decide) ?_
  refine lv_iadd hx hb dL_law_822 ?_
  refine va_sld hx hb hX hbl hbA hS n2 dL_law_823 ?_
  refine mt_goi (mt_runV (i := 0) (As := [.int (xs (nI i + 1).toNatClampNeg), .int (xs (nI i + 2).toNatClampNeg)]) (rest := []) ⟨hx, hb, hml, hown, hts⟩ hI hH (c_X11_order l E (xs (nI i + 1).toNatClampNeg) (xs (nI i + 2).toNatClampNeg) M u _ _ f1) (cwV 2 hts gL_law_X11_order rfl rfl rfl (by decide +kernel) ⟨Nat.le_of_ble_eq_true rfl, Nat.le_of_ble_eq_true rfl⟩) mt_T0 rfl rfl hl.1 rfl (Nat.le_of_ble_eq_true rfl) dL_law_824 ⟨Nat.le_of_ble_eq_true rfl, Nat.le_of_ble_eq_true rfl⟩) hS (fun H locs hH hS => ?_)
  refine lv_aload_n hx hb dL_law_827 rfl (lv_at hl 3 rfl) ?_
  refine lv_aload_n hx hb dL_law_828 rfl (lv_at hl 1 rfl) ?_
  refine lv_iload_n hx hb dL_law_829 rfl (lv_at hl 0 rfl) ?_
  refine lv_iconst (v := 1) hx hb dL_law_830 (by decide) ?_
  refine lv_iadd hx hb dL_law_831 ?_
  refine va_sld hx hb hX hbl hbA hS n1 dL_law_832 ?_
  refine lv_aload_n hx hb dL_law_833 rfl (lv_at hl 1 rfl) ?_
  refine lv_iload_n hx hb dL_law_834 rfl (lv_at hl 0 rfl) ?_
  refine lv_iconst (v := 2) hx hb dL_law_835 (by decide) ?_
  refine lv_iadd hx hb dL_law_836 ?_
  refine va_sld hx hb hX hbl hbA hS n2 dL_law_837 ?_
  refine mt_goi (mt_runV (i := 147) (As := [.int (xs (nI i + 1).toNatClampNeg), .int (xs (nI i + 2).toNatClampNeg)]) (rest := [.int r]) ⟨hx, hb, hml, hown, hts⟩ hI hH (c_X12_order l E (xs (nI i + 1).toNatClampNeg) (xs (nI i + 2).toNatClampNeg) M1 u _ _ f2) (cwV 2 hts gL_law_X12_order rfl rfl rfl (by decide +kernel) ⟨Nat.le_of_ble_eq_true rfl, Nat.le_of_ble_eq_true rfl⟩) mt_T147 rfl rfl hl.1 rfl (Nat.le_of_ble_eq_true rfl) dL_law_838 ⟨Nat.le_of_ble_eq_true rfl, Nat.le_of_ble_eq_true rfl⟩) hS (fun H locs hH hS => ?_)
  exact lv_icmp_eq (tgt := 1661) hx hb dL_law_841 (by decide) (fun _ => kk M2 u H locs h2 hH hS) (fun c9 => absurd rfl c9)
set_option maxHeartbeats 4000000 in
set_option maxRecDepth 100000 in
/-- unheard -/
theorem la_22 {p : Program} {e : Env} {s : State} {mid : MethodId} {below : List Frame} {meth : Method} {c0 : Code} (l : Launch) {b L : Nat} {xs : Nat → Int32} (hL : L ≤ 2560) (C0 : lw_At p s mid meth c0 b L xs) {E : mt_E} (hE : E.2.2.2 = s.heap.size) (hI : mt_I E s) {i : Nat} (hi : i + 5 ≤ L) {M : mt_M} {u : mt_U} (hM : rl M) {H : Heap} {locs : List Loc} {ls : Array Slot} (hH : mt_H E M u H) (hS : va_S (mt_A E) s.heap H locs) (hl : lv_has ls 4 [(3, .int (nI i)), (0, .ref b), (1, .ref (E.2.1 0)), (2, .ref (E.2.1 147))]) (kk : ∀ (M' : mt_M) (u' : mt_U) (H' : Heap) (locs' : List Loc), rl M' → mt_H E M' u' H' → va_S (mt_A E) s.heap H' locs' → W p l e room_1 s mid #[Value.ref b] below meth c0 H' locs' 164 2388 (lw_Z below #[Value.ref b] s) (F0 mid 1661 ls [])) : W p l e room_1 s mid #[Value.ref b] below meth c0 H locs 164 2388 (lw_Z below #[Value.ref b] s) (F0 mid 846 ls []) := by
  obtain ⟨hx, hb, hr, hml, hown, hts0, hX, hbl, hlocks, hgv⟩ := id C0
  have hown : s.vm.findClass RL = some mid.cls := hown
  have hts : ∀ w ∈ wsL_law, w.before #[Value.ref b] s = true := fun w h => hts0 w (wsL_law_in w h)
  have hbA : ¬ (mt_A E) b := la_b hE hbl
  have n1 : vp_in (nI i + 1) L := la_n1 hL hi
  have n2 : vp_in (nI i + 2) L := la_n2 hL hi
  have n3 : vp_in (nI i + 3) L := la_n3 hL hi
  have n4 : vp_in (nI i + 4) L := la_n4 hL hi
  obtain ⟨r, M1, M2, f1, f2, h2⟩ := cl_unheard (xs (nI i + 1).toNatClampNeg) (xs (nI i + 2).toNatClampNeg) (xs (nI i + 3).toNatClampNeg) (xs (nI i + 4).toNatClampNeg) M hM
  refine lv_aload_n hx hb dL_law_846 rfl (lv_at hl 2 rfl) ?_
  refine lv_aload_n hx hb dL_law_847 rfl (lv_at hl 1 rfl) ?_
  refine lv_iload_n hx hb dL_law_848 rfl (lv_at hl 0 rfl) ?_
  refine lv_iconst (v := 1) hx hb dL_law_849 (by decide) ?_
  refine lv_iadd hx hb dL_law_850 ?_
  refine va_sld hx hb hX hbl hbA hS n1 dL_law_851 ?_
  refine lv_aload_n hx hb dL_law_852 rfl (lv_at hl 1 rfl) ?_
  refine lv_iload_n hx hb dL_law_853 rfl (lv_at hl 0 rfl) ?_
  refine lv_iconst (v := 2) hx hb dL_law_854 (by decide) ?_
  refine lv_iadd hx hb dL_law_855 ?_
  refine va_sld hx hb hX hbl hbA hS n2 dL_law_856 ?_
  refine lv_aload_n hx hb dL_law_857 rfl (lv_at hl 1 rfl) ?_
  refine lv_iload_n hx hb dL_law_858 rfl (lv_at hl 0 rfl) ?_
  refine lv_iconst (v := 3) hx hb dL_law_859 (by decide) ?_
  refine lv_iadd hx hb dL_law_860 ?_
  refine va_sld hx hb hX hbl hbA hS n3 dL_law_861 ?_
  refine lv_aload_n hx hb dL_law_862 rfl (lv_at hl 1 rfl) ?_
  refine lv_iload_n hx hb dL_law_863 rfl (lv_at hl 0 rfl) ?_
  refine lv_iconst (v := 4) hx hb dL_law_864 (by decide) ?_
  refine lv_iadd hx hb dL_law_865 ?_
  refine va_sld hx hb hX hbl hbA hS n4 dL_law_866 ?_
  refine mt_goi (mt_runV (i := 0) (As := [.int (xs (nI i + 1).toNatClampNeg), .int (xs (nI i + 2).toNatClampNeg), .int (xs (nI i + 3).toNatClampNeg), .int (xs (nI i + 4).toNatClampNeg)]) (rest := []) ⟨hx, hb, hml, hown, hts⟩ hI hH (c_X11_unheard l E (xs (nI i + 1).toNatClampNeg) (xs (nI i + 2).toNatClampNeg) (xs (nI i + 3).toNatClampNeg) (xs (nI i + 4).toNatClampNeg) M u _ _ f1) (cwV 4 hts gL_law_X11_unheard rfl rfl rfl (by decide +kernel) ⟨Nat.le_of_ble_eq_true rfl, Nat.le_of_ble_eq_true rfl⟩) mt_T0 rfl rfl hl.1 rfl (Nat.le_of_ble_eq_true rfl) dL_law_867 ⟨Nat.le_of_ble_eq_true rfl, Nat.le_of_ble_eq_true rfl⟩) hS (fun H locs hH hS => ?_)
  refine lv_aload_n hx hb dL_law_870 rfl (lv_at hl 3 rfl) ?_
  refine lv_aload_n hx hb dL_law_871 rfl (lv_at hl 1 rfl) ?_
  refine lv_iload_n hx hb dL_law_872 rfl (lv_at hl 0 rfl) ?_
  refine lv_iconst (v := 1) hx hb dL_law_873 (by decide) ?_
  refine lv_iadd hx hb dL_law_874 ?_
  refine va_sld hx hb hX hbl hbA hS n1 dL_law_875 ?_
  refine lv_aload_n hx hb dL_law_876 rfl (lv_at hl 1 rfl) ?_
  refine lv_iload_n hx hb dL_law_877 rfl (lv_at hl 0 rfl) ?_
  refine lv_iconst (v := 2) hx hb dL_law_878 (by decide) ?_
  refine lv_iadd hx hb dL_law_879 ?_
  refine va_sld hx hb hX hbl hbA hS n2 dL_law_880 ?_
  refine lv_aload_n hx hb dL_law_881 rfl (lv_at hl 1 rfl) ?_
  refine lv_iload_n hx hb dL_law_882 rfl (lv_at hl 0 rfl) ?_
  refine lv_iconst (v := 3) hx hb dL_law_883 (by decide) ?_
  refine lv_iadd hx hb dL_law_884 ?_
  refine va_sld hx hb hX hbl hbA hS n3 dL_law_885 ?_
  refine lv_aload_n hx hb dL_law_886 rfl (lv_at hl 1 rfl) ?_
  refine lv_iload_n hx hb dL_law_887 rfl (lv_at hl 0 rfl) ?_
  refine lv_iconst (v := 4) hx hb dL_law_888 (by decide) ?_
  refine lv_iadd hx hb dL_law_889 ?_
  refine va_sld hx hb hX hbl hbA hS n4 dL_law_890 ?_
  refine mt_goi (mt_runV (i := 147) (As := [.int (xs (nI i + 1).toNatClampNeg), .int (xs (nI i + 2).toNatClampNeg), .int (xs (nI i + 3).toNatClampNeg), .int (xs (nI i + 4).toNatClampNeg)]) (rest := [.int r]) ⟨hx, hb, hml, hown, hts⟩ hI hH (c_X12_unheard l E (xs (nI i + 1).toNatClampNeg) (xs (nI i + 2).toNatClampNeg) (xs (nI i + 3).toNatClampNeg) (xs (nI i + 4).toNatClampNeg) M1 u _ _ f2) (cwV 4 hts gL_law_X12_unheard rfl rfl rfl (by decide +kernel) ⟨Nat.le_of_ble_eq_true rfl, Nat.le_of_ble_eq_true rfl⟩) mt_T147 rfl rfl hl.1 rfl (Nat.le_of_ble_eq_true rfl) dL_law_891 ⟨Nat.le_of_ble_eq_true rfl, Nat.le_of_ble_eq_true rfl⟩) hS (fun H locs hH hS => ?_)
  exact lv_icmp_eq (tgt := 1661) hx hb dL_law_894 (by decide) (fun _ => kk M2 u H locs h2 hH hS) (fun c9 => absurd rfl c9)
set_option maxHeartbeats 4000000 in
set_option maxRecDepth 100000 in
/-- game -/
theorem la_23 {p : Program} {e : Env} {s : State} {mid : MethodId} {below : List Frame} {meth : Method} {c0 : Code} (l : Launch) {b L : Nat} {xs : Nat → Int32} (hL : L ≤ 2560) (C0 : lw_At p s mid meth c0 b L xs) {E : mt_E} (hE : E.2.2.2 = s.heap.size) (hI : mt_I E s) {i : Nat} (hi : i + 5 ≤ L) {M : mt_M} {u : mt_U} (hM : rl M) {H : Heap} {locs : List Loc} {ls : Array Slot} (hH : mt_H E M u H) (hS : va_S (mt_A E) s.heap H locs) (hl : lv_has ls 4 [(3, .int (nI i)), (0, .ref b), (1, .ref (E.2.1 0)), (2, .ref (E.2.1 147))]) (kk : ∀ (M' : mt_M) (u' : mt_U) (H' : Heap) (locs' : List Loc), rl M' → mt_H E M' u' H' → va_S (mt_A E) s.heap H' locs' → W p l e room_1 s mid #[Value.ref b] below meth c0 H' locs' 164 2388 (lw_Z below #[Value.ref b] s) (F0 mid 1661 ls [])) : W p l e room_1 s mid #[Value.ref b] below meth c0 H locs 164 2388 (lw_Z below #[Value.ref b] s) (F0 mid 899 ls []) := by
  obtain ⟨hx, hb, hr, hml, hown, hts0, hX, hbl, hlocks, hgv⟩ := id C0
  have hown : s.vm.findClass RL = some mid.cls := hown
  have hts : ∀ w ∈ wsL_law, w.before #[Value.ref b] s = true := fun w h => hts0 w (wsL_law_in w h)
  have hbA : ¬ (mt_A E) b := la_b hE hbl
  have n1 : vp_in (nI i + 1) L := la_n1 hL hi
  obtain ⟨r, M1, M2, f1, f2, h2⟩ := cl_game (xs (nI i + 1).toNatClampNeg) M hM
  refine lv_aload_n hx hb dL_law_899 rfl (lv_at hl 2 rfl) ?_
  refine lv_aload_n hx hb dL_law_900 rfl (lv_at hl 1 rfl) ?_
  refine lv_iload_n hx hb dL_law_901 rfl (lv_at hl 0 rfl) ?_
  refine lv_iconst (v := 1) hx hb dL_law_902 (by decide) ?_
  refine lv_iadd hx hb dL_law_903 ?_
  refine va_sld hx hb hX hbl hbA hS n1 dL_law_904 ?_
  refine mt_goi (mt_runV (i := 0) (As := [.int (xs (nI i + 1).toNatClampNeg)]) (rest := []) ⟨hx, hb, hml, hown, hts⟩ hI hH (c_X11_game l E (xs (nI i + 1).toNatClampNeg) M u _ _ f1) (cwV 1 hts gL_law_X11_game rfl rfl rfl (by decide +kernel) ⟨Nat.le_of_ble_eq_true rfl, Nat.le_of_ble_eq_true rfl⟩) mt_T0 rfl rfl hl.1 rfl (Nat.le_of_ble_eq_true rfl) dL_law_905 ⟨Nat.le_of_ble_eq_true rfl, Nat.le_of_ble_eq_true rfl⟩) hS (fun H locs hH hS => ?_)
  refine lv_aload_n hx hb dL_law_908 rfl (lv_at hl 3 rfl) ?_
  refine lv_aload_n hx hb dL_law_909 rfl (lv_at hl 1 rfl) ?_
  refine lv_iload_n hx hb dL_law_910 rfl (lv_at hl 0 rfl) ?_
  refine lv_iconst (v := 1) hx hb dL_law_911 (by decide) ?_
  refine lv_iadd hx hb dL_law_912 ?_
  refine va_sld hx hb hX hbl hbA hS n1 dL_law_913 ?_
  refine mt_goi (mt_runV (i := 147) (As := [.int (xs (nI i + 1).toNatClampNeg)]) (rest := [.int r]) ⟨hx, hb, hml, hown, hts⟩ hI hH (c_X12_game l E (xs (nI i + 1).toNatClampNeg) M1 u _ _ f2) (cwV 1 hts gL_law_X12_game rfl rfl rfl (by decide +kernel) ⟨Nat.le_of_ble_eq_true rfl, Nat.le_of_ble_eq_true rfl⟩) mt_T147 rfl rfl hl.1 rfl (Nat.le_of_ble_eq_true rfl) dL_law_914 ⟨Nat.le_of_ble_eq_true rfl, Nat.le_of_ble_eq_true rfl⟩) hS (fun H locs hH hS => ?_)
  exact lv_icmp_eq (tgt := 1661) hx hb dL_law_917 (by decide) (fun _ => kk M2 u H locs h2 hH hS) (fun c9 => absurd rfl c9)
set_option maxHeartbeats 4000000 in
set_option maxRecDepth 100000 in
/-- all -/
theorem la_24 {p : Program} {e : Env} {s : State} {mid : MethodId} {below : List Frame} {meth : Method} {c0 : Code} (l : Launch) {b L : Nat} {xs : Nat → Int32} (hL : L ≤ 2560) (C0 : lw_At p s mid meth c0 b L xs) {E : mt_E} (hE : E.2.2.2 = s.heap.size) (hI : mt_I E s) {i : Nat} (hi : i + 5 ≤ L) {M : mt_M} {u : mt_U} (hM : rl M) {H : Heap} {locs : List Loc} {ls : Array Slot} (hH : mt_H E M u H) (hS : va_S (mt_A E) s.heap H locs) (hl : lv_has ls 4 [(3, .int (nI i)), (0, .ref b), (1, .ref (E.2.1 0)), (2, .ref (E.2.1 147))]) (kk : ∀ (M' : mt_M) (u' : mt_U) (H' : Heap) (locs' : List Loc), rl M' → mt_H E M' u' H' → va_S (mt_A E) s.heap H' locs' → W p l e room_1 s mid #[Value.ref b] below meth c0 H' locs' 164 2388 (lw_Z below #[Value.ref b] s) (F0 mid 1661 ls [])) : W p l e room_1 s mid #[Value.ref b] below meth c0 H locs 164 2388 (lw_Z below #[Value.ref b] s) (F0 mid 922 ls []) := by
  obtain ⟨hx, hb, hr, hml, hown, hts0, hX, hbl, hlocks, hgv⟩ := id C0
  have hown : s.vm.findClass RL = some mid.cls := hown
  have hts : ∀ w ∈ wsL_law, w.before #[Value.ref b] s = true := fun w h => hts0 w (wsL_law_in w h)
  have hbA : ¬ (mt_A E) b := la_b hE hbl
  have n1 : vp_in (nI i + 1) L := la_n1 hL hi
  have n2 : vp_in (nI i + 2) L := la_n2 hL hi
  have n3 : vp_in (nI i + 3) L := la_n3 hL hi
  obtain ⟨r, M1, M2, f1, f2, h2⟩ := cl_all (xs (nI i + 1).toNatClampNeg) (xs (nI i + 2).toNatClampNeg) (xs (nI i + 3).toNatClampNeg) M hM
  refine lv_aload_n hx hb dL_law_922 rfl (lv_at hl 2 rfl) ?_
  refine lv_aload_n hx hb dL_law_923 rfl (lv_at hl 1 rfl) ?_
  refine lv_iload_n hx hb dL_law_924 rfl (lv_at hl 0 rfl) ?_
  refine lv_iconst (v := 1) hx hb dL_law_925 (by decide) ?_
  refine lv_iadd hx hb dL_law_926 ?_
  refine va_sld hx hb hX hbl hbA hS n1 dL_law_927 ?_
  refine lv_aload_n hx hb dL_law_928 rfl (lv_at hl 1 rfl) ?_
  refine lv_iload_n hx hb dL_law_929 rfl (lv_at hl 0 rfl) ?_
  refine lv_iconst (v := 2) hx hb dL_law_930 (by decide) ?_
  refine lv_iadd hx hb dL_law_931 ?_
  refine va_sld hx hb hX hbl hbA hS n2 dL_law_932 ?_
  refine lv_aload_n hx hb dL_law_933 rfl (lv_at hl 1 rfl) ?_
  refine lv_iload_n hx hb dL_law_934 rfl (lv_at hl 0 rfl) ?_
  refine lv_iconst (v := 3) hx hb dL_law_935 (by decide) ?_
  refine lv_iadd hx hb dL_law_936 ?_
  refine va_sld hx hb hX hbl hbA hS n3 dL_law_937 ?_
  refine mt_goi (mt_runV (i := 0) (As := [.int (xs (nI i + 1).toNatClampNeg), .int (xs (nI i + 2).toNatClampNeg), .int (xs (nI i + 3).toNatClampNeg)]) (rest := []) ⟨hx, hb, hml, hown, hts⟩ hI hH (c_X11_all l E (xs (nI i + 1).toNatClampNeg) (xs (nI i + 2).toNatClampNeg) (xs (nI i + 3).toNatClampNeg) M u _ _ f1) (cwV 3 hts gL_law_X11_all rfl rfl rfl (by decide +kernel) ⟨Nat.le_of_ble_eq_true rfl, Nat.le_of_ble_eq_true rfl⟩) mt_T0 rfl rfl hl.1 rfl (Nat.le_of_ble_eq_true rfl) dL_law_938 ⟨Nat.le_of_ble_eq_true rfl, Nat.le_of_ble_eq_true rfl⟩) hS (fun H locs hH hS => ?_)
  refine lv_aload_n hx hb dL_law_941 rfl (lv_at hl 3 rfl) ?_
  refine lv_aload_n hx hb dL_law_942 rfl (lv_at hl 1 rfl) ?_
  refine lv_iload_n hx hb dL_law_943 rfl (lv_at hl 0 rfl) ?_
  refine lv_iconst (v := 1) hx hb dL_law_944 (by decide) ?_
  refine lv_iadd hx hb dL_law_945 ?_
  refine va_sld hx hb hX hbl hbA hS n1 dL_law_946 ?_
  refine lv_aload_n hx hb dL_law_947 rfl (lv_at hl 1 rfl) ?_
  refine lv_iload_n hx hb dL_law_948 rfl (lv_at hl 0 rfl) ?_
  refine lv_iconst (v := 2) hx hb dL_law_949 (by decide) ?_
  refine lv_iadd hx hb dL_law_950 ?_
  refine va_sld hx hb hX hbl hbA hS n2 dL_law_951 ?_
  refine lv_aload_n hx hb dL_law_952 rfl (lv_at hl 1 rfl) ?_
  refine lv_iload_n hx hb dL_law_953 rfl (lv_at hl 0 rfl) ?_
  refine lv_iconst (v := 3) hx hb dL_law_954 (by decide) ?_
  refine lv_iadd hx hb dL_law_955 ?_
  refine va_sld hx hb hX hbl hbA hS n3 dL_law_956 ?_
  refine mt_goi (mt_runV (i := 147) (As := [.int (xs (nI i + 1).toNatClampNeg), .int (xs (nI i + 2).toNatClampNeg), .int (xs (nI i + 3).toNatClampNeg)]) (rest := [.int r]) ⟨hx, hb, hml, hown, hts⟩ hI hH (c_X12_all l E (xs (nI i + 1).toNatClampNeg) (xs (nI i + 2).toNatClampNeg) (xs (nI i + 3).toNatClampNeg) M1 u _ _ f2) (cwV 3 hts gL_law_X12_all rfl rfl rfl (by decide +kernel) ⟨Nat.le_of_ble_eq_true rfl, Nat.le_of_ble_eq_true rfl⟩) mt_T147 rfl rfl hl.1 rfl (Nat.le_of_ble_eq_true rfl) dL_law_957 ⟨Nat.le_of_ble_eq_true rfl, Nat.le_of_ble_eq_true rfl⟩) hS (fun H locs hH hS => ?_)
  exact lv_icmp_eq (tgt := 1661) hx hb dL_law_960 (by decide) (fun _ => kk M2 u H locs h2 hH hS) (fun c9 => absurd rfl c9)
set_option maxHeartbeats 4000000 in
set_option maxRecDepth 100000 in
/-- flour -/
theorem la_25 {p : Program} {e : Env} {s : State} {mid : MethodId} {below : List Frame} {meth : Method} {c0 : Code} (l : Launch) {b L : Nat} {xs : Nat → Int32} (hL : L ≤ 2560) (C0 : lw_At p s mid meth c0 b L xs) {E : mt_E} (hE : E.2.2.2 = s.heap.size) (hI : mt_I E s) {i : Nat} (hi : i + 5 ≤ L) {M : mt_M} {u : mt_U} (hM : rl M) {H : Heap} {locs : List Loc} {ls : Array Slot} (hH : mt_H E M u H) (hS : va_S (mt_A E) s.heap H locs) (hl : lv_has ls 4 [(3, .int (nI i)), (0, .ref b), (1, .ref (E.2.1 0)), (2, .ref (E.2.1 147))]) (kk : ∀ (M' : mt_M) (u' : mt_U) (H' : Heap) (locs' : List Loc), rl M' → mt_H E M' u' H' → va_S (mt_A E) s.heap H' locs' → W p l e room_1 s mid #[Value.ref b] below meth c0 H' locs' 164 2388 (lw_Z below #[Value.ref b] s) (F0 mid 1661 ls [])) : W p l e room_1 s mid #[Value.ref b] below meth c0 H locs 164 2388 (lw_Z below #[Value.ref b] s) (F0 mid 965 ls []) := by
  obtain ⟨hx, hb, hr, hml, hown, hts0, hX, hbl, hlocks, hgv⟩ := id C0
  have hown : s.vm.findClass RL = some mid.cls := hown
  have hts : ∀ w ∈ wsL_law, w.before #[Value.ref b] s = true := fun w h => hts0 w (wsL_law_in w h)
  have hbA : ¬ (mt_A E) b := la_b hE hbl
  have n1 : vp_in (nI i + 1) L := la_n1 hL hi
  have n2 : vp_in (nI i + 2) L := la_n2 hL hi
  have n3 : vp_in (nI i + 3) L := la_n3 hL hi
  have n4 : vp_in (nI i + 4) L := la_n4 hL hi
  obtain ⟨r, M1, M2, u2, f1, f2, h2⟩ := cl_flour (xs (nI i + 1).toNatClampNeg) (xs (nI i + 2).toNatClampNeg) (xs (nI i + 3).toNatClampNeg) (xs (nI i + 4).toNatClampNeg) u M hM
  refine lv_aload_n hx hb dL_law_965 rfl (lv_at hl 2 rfl) ?_
  refine lv_aload_n hx hb dL_law_966 rfl (lv_at hl 1 rfl) ?_
  refine lv_iload_n hx hb dL_law_967 rfl (lv_at hl 0 rfl) ?_
  refine lv_iconst (v := 1) hx hb dL_law_968 (by decide) ?_
  refine lv_iadd hx hb dL_law_969 ?_
  refine va_sld hx hb hX hbl hbA hS n1 dL_law_970 ?_
  refine lv_aload_n hx hb dL_law_971 rfl (lv_at hl 1 rfl) ?_
  refine lv_iload_n hx hb dL_law_972 rfl (lv_at hl 0 rfl) ?_
  refine lv_iconst (v := 2) hx hb dL_law_973 (by decide) ?_
  refine lv_iadd hx hb dL_law_974 ?_
  refine va_sld hx hb hX hbl hbA hS n2 dL_law_975 ?_
  refine lv_aload_n hx hb dL_law_976 rfl (lv_at hl 1 rfl) ?_
  refine lv_iload_n hx hb dL_law_977 rfl (lv_at hl 0 rfl) ?_
  refine lv_iconst (v := 3) hx hb dL_law_978 (by decide) ?_
  refine lv_iadd hx hb dL_law_979 ?_
  refine va_sld hx hb hX hbl hbA hS n3 dL_law_980 ?_
  refine lv_aload_n hx hb dL_law_981 rfl (lv_at hl 1 rfl) ?_
  refine lv_iload_n hx hb dL_law_982 rfl (lv_at hl 0 rfl) ?_
  refine lv_iconst (v := 4) hx hb dL_law_983 (by decide) ?_
  refine lv_iadd hx hb dL_law_984 ?_
  refine va_sld hx hb hX hbl hbA hS n4 dL_law_985 ?_
  refine mt_gol (mt_runV (i := 0) (As := [.int (xs (nI i + 1).toNatClampNeg), .int (xs (nI i + 2).toNatClampNeg), .int (xs (nI i + 3).toNatClampNeg), .int (xs (nI i + 4).toNatClampNeg)]) (rest := []) ⟨hx, hb, hml, hown, hts⟩ hI hH (c_X11_flour l E (xs (nI i + 1).toNatClampNeg) (xs (nI i + 2).toNatClampNeg) (xs (nI i + 3).toNatClampNeg) (xs (nI i + 4).toNatClampNeg) M u _ _ f1) (cwV 4 hts gL_law_X11_flour rfl rfl rfl (by decide +kernel) ⟨Nat.le_of_ble_eq_true rfl, Nat.le_of_ble_eq_true rfl⟩) mt_T0 rfl rfl hl.1 rfl (Nat.le_of_ble_eq_true rfl) dL_law_986 ⟨Nat.le_of_ble_eq_true rfl, Nat.le_of_ble_eq_true rfl⟩) hS (fun H locs hH hS => ?_)
  refine lv_aload_n hx hb dL_law_989 rfl (lv_at hl 3 rfl) ?_
  refine lv_aload_n hx hb dL_law_990 rfl (lv_at hl 1 rfl) ?_
  refine lv_iload_n hx hb dL_law_991 rfl (lv_at hl 0 rfl) ?_
  refine lv_iconst (v := 1) hx hb dL_law_992 (by decide) ?_
  refine lv_iadd hx hb dL_law_993 ?_
  refine va_sld hx hb hX hbl hbA hS n1 dL_law_994 ?_
  refine lv_aload_n hx hb dL_law_995 rfl (lv_at hl 1 rfl) ?_
  refine lv_iload_n hx hb dL_law_996 rfl (lv_at hl 0 rfl) ?_
  refine lv_iconst (v := 2) hx hb dL_law_997 (by decide) ?_
  refine lv_iadd hx hb dL_law_998 ?_
  refine va_sld hx hb hX hbl hbA hS n2 dL_law_999 ?_
  refine lv_aload_n hx hb dL_law_1000 rfl (lv_at hl 1 rfl) ?_
  refine lv_iload_n hx hb dL_law_1001 rfl (lv_at hl 0 rfl) ?_
  refine lv_iconst (v := 3) hx hb dL_law_1002 (by decide) ?_
  refine lv_iadd hx hb dL_law_1003 ?_
  refine va_sld hx hb hX hbl hbA hS n3 dL_law_1004 ?_
  refine lv_aload_n hx hb dL_law_1005 rfl (lv_at hl 1 rfl) ?_
  refine lv_iload_n hx hb dL_law_1006 rfl (lv_at hl 0 rfl) ?_
  refine lv_iconst (v := 4) hx hb dL_law_1007 (by decide) ?_
  refine lv_iadd hx hb dL_law_1008 ?_
  refine va_sld hx hb hX hbl hbA hS n4 dL_law_1009 ?_
  refine mt_gol (mt_runV (i := 147) (As := [.int (xs (nI i + 1).toNatClampNeg), .int (xs (nI i + 2).toNatClampNeg), .int (xs (nI i + 3).toNatClampNeg), .int (xs (nI i + 4).toNatClampNeg)]) (rest := [.long r]) ⟨hx, hb, hml, hown, hts⟩ hI hH (c_X12_flour l E (xs (nI i + 1).toNatClampNeg) (xs (nI i + 2).toNatClampNeg) (xs (nI i + 3).toNatClampNeg) (xs (nI i + 4).toNatClampNeg) M1 u _ _ _ f2) (cwV 4 hts gL_law_X12_flour rfl rfl rfl (by decide +kernel) ⟨Nat.le_of_ble_eq_true rfl, Nat.le_of_ble_eq_true rfl⟩) mt_T147 rfl rfl hl.1 rfl (Nat.le_of_ble_eq_true rfl) dL_law_1010 ⟨Nat.le_of_ble_eq_true rfl, Nat.le_of_ble_eq_true rfl⟩) hS (fun H locs hH hS => ?_)
  refine W.lcmp hx hb dL_law_1013 ?_
  exact lv_if_eq (tgt := 1661) hx hb dL_law_1014 (by decide) (fun _ => kk M2 u2 H locs h2 hH hS) (fun c9 => absurd (by simp [lg_cmp]) c9)
set_option maxHeartbeats 4000000 in
set_option maxRecDepth 100000 in
/-- sure -/
theorem la_26 {p : Program} {e : Env} {s : State} {mid : MethodId} {below : List Frame} {meth : Method} {c0 : Code} (l : Launch) {b L : Nat} {xs : Nat → Int32} (hL : L ≤ 2560) (C0 : lw_At p s mid meth c0 b L xs) {E : mt_E} (hE : E.2.2.2 = s.heap.size) (hI : mt_I E s) {i : Nat} (hi : i + 5 ≤ L) {M : mt_M} {u : mt_U} (hM : rl M) {H : Heap} {locs : List Loc} {ls : Array Slot} (hH : mt_H E M u H) (hS : va_S (mt_A E) s.heap H locs) (hl : lv_has ls 4 [(3, .int (nI i)), (0, .ref b), (1, .ref (E.2.1 0)), (2, .ref (E.2.1 147))]) (kk : ∀ (M' : mt_M) (u' : mt_U) (H' : Heap) (locs' : List Loc), rl M' → mt_H E M' u' H' → va_S (mt_A E) s.heap H' locs' → W p l e room_1 s mid #[Value.ref b] below meth c0 H' locs' 164 2388 (lw_Z below #[Value.ref b] s) (F0 mid 1661 ls [])) : W p l e room_1 s mid #[Value.ref b] below meth c0 H locs 164 2388 (lw_Z below #[Value.ref b] s) (F0 mid 1019 ls []) := by
  obtain ⟨hx, hb, hr, hml, hown, hts0, hX, hbl, hlocks, hgv⟩ := id C0
  have hown : s.vm.findClass RL = some mid.cls := hown
  have hts : ∀ w ∈ wsL_law, w.before #[Value.ref b] s = true := fun w h => hts0 w (wsL_law_in w h)
  have hbA : ¬ (mt_A E) b := la_b hE hbl
  have n1 : vp_in (nI i + 1) L := la_n1 hL hi
  have n2 : vp_in (nI i + 2) L := la_n2 hL hi
  have n3 : vp_in (nI i + 3) L := la_n3 hL hi
  obtain ⟨r, M1, M2, f1, f2, h2⟩ := cl_sure (xs (nI i + 1).toNatClampNeg) (xs (nI i + 2).toNatClampNeg) (xs (nI i + 3).toNatClampNeg) M hM
  refine lv_aload_n hx hb dL_law_1019 rfl (lv_at hl 2 rfl) ?_
  refine lv_aload_n hx hb dL_law_1020 rfl (lv_at hl 1 rfl) ?_
  refine lv_iload_n hx hb dL_law_1021 rfl (lv_at hl 0 rfl) ?_
  refine lv_iconst (v := 1) hx hb dL_law_1022 (by decide) ?_
  refine lv_iadd hx hb dL_law_1023 ?_
  refine va_sld hx hb hX hbl hbA hS n1 dL_law_1024 ?_
  refine lv_aload_n hx hb dL_law_1025 rfl (lv_at hl 1 rfl) ?_
  refine lv_iload_n hx hb dL_law_1026 rfl (lv_at hl 0 rfl) ?_
  refine lv_iconst (v := 2) hx hb dL_law_1027 (by decide) ?_
  refine lv_iadd hx hb dL_law_1028 ?_
  refine va_sld hx hb hX hbl hbA hS n2 dL_law_1029 ?_
  refine lv_aload_n hx hb dL_law_1030 rfl (lv_at hl 1 rfl) ?_
  refine lv_iload_n hx hb dL_law_1031 rfl (lv_at hl 0 rfl) ?_
  refine lv_iconst (v := 3) hx hb dL_law_1032 (by decide) ?_
  refine lv_iadd hx hb dL_law_1033 ?_
  refine va_sld hx hb hX hbl hbA hS n3 dL_law_1034 ?_
  refine mt_gol (mt_runV (i := 0) (As := [.int (xs (nI i + 1).toNatClampNeg), .int (xs (nI i + 2).toNatClampNeg), .int (xs (nI i + 3).toNatClampNeg)]) (rest := []) ⟨hx, hb, hml, hown, hts⟩ hI hH (c_X11_sure l E (xs (nI i + 1).toNatClampNeg) (xs (nI i + 2).toNatClampNeg) (xs (nI i + 3).toNatClampNeg) M u _ _ f1) (cwV 3 hts gL_law_X11_sure rfl rfl rfl (by decide +kernel) ⟨Nat.le_of_ble_eq_true rfl, Nat.le_of_ble_eq_true rfl⟩) mt_T0 rfl rfl hl.1 rfl (Nat.le_of_ble_eq_true rfl) dL_law_1035 ⟨Nat.le_of_ble_eq_true rfl, Nat.le_of_ble_eq_true rfl⟩) hS (fun H locs hH hS => ?_)
  refine lv_aload_n hx hb dL_law_1038 rfl (lv_at hl 3 rfl) ?_
  refine lv_aload_n hx hb dL_law_1039 rfl (lv_at hl 1 rfl) ?_
  refine lv_iload_n hx hb dL_law_1040 rfl (lv_at hl 0 rfl) ?_
  refine lv_iconst (v := 1) hx hb dL_law_1041 (by decide) ?_
  refine lv_iadd hx hb dL_law_1042 ?_
  refine va_sld hx hb hX hbl hbA hS n1 dL_law_1043 ?_
  refine lv_aload_n hx hb dL_law_1044 rfl (lv_at hl 1 rfl) ?_
  refine lv_iload_n hx hb dL_law_1045 rfl (lv_at hl 0 rfl) ?_
  refine lv_iconst (v := 2) hx hb dL_law_1046 (by decide) ?_
  refine lv_iadd hx hb dL_law_1047 ?_
  refine va_sld hx hb hX hbl hbA hS n2 dL_law_1048 ?_
  refine lv_aload_n hx hb dL_law_1049 rfl (lv_at hl 1 rfl) ?_
  refine lv_iload_n hx hb dL_law_1050 rfl (lv_at hl 0 rfl) ?_
  refine lv_iconst (v := 3) hx hb dL_law_1051 (by decide) ?_
  refine lv_iadd hx hb dL_law_1052 ?_
  refine va_sld hx hb hX hbl hbA hS n3 dL_law_1053 ?_
  refine mt_gol (mt_runV (i := 147) (As := [.int (xs (nI i + 1).toNatClampNeg), .int (xs (nI i + 2).toNatClampNeg), .int (xs (nI i + 3).toNatClampNeg)]) (rest := [.long r]) ⟨hx, hb, hml, hown, hts⟩ hI hH (c_X12_sure l E (xs (nI i + 1).toNatClampNeg) (xs (nI i + 2).toNatClampNeg) (xs (nI i + 3).toNatClampNeg) M1 u _ _ f2) (cwV 3 hts gL_law_X12_sure rfl rfl rfl (by decide +kernel) ⟨Nat.le_of_ble_eq_true rfl, Nat.le_of_ble_eq_true rfl⟩) mt_T147 rfl rfl hl.1 rfl (Nat.le_of_ble_eq_true rfl) dL_law_1054 ⟨Nat.le_of_ble_eq_true rfl, Nat.le_of_ble_eq_true rfl⟩) hS (fun H locs hH hS => ?_)
  refine W.lcmp hx hb dL_law_1057 ?_
  exact lv_if_eq (tgt := 1661) hx hb dL_law_1058 (by decide) (fun _ => kk M2 u H locs h2 hH hS) (fun c9 => absurd (by simp [lg_cmp]) c9)
set_option maxHeartbeats 4000000 in
set_option maxRecDepth 100000 in
/-- bars -/
theorem la_27 {p : Program} {e : Env} {s : State} {mid : MethodId} {below : List Frame} {meth : Method} {c0 : Code} (l : Launch) {b L : Nat} {xs : Nat → Int32} (hL : L ≤ 2560) (C0 : lw_At p s mid meth c0 b L xs) {E : mt_E} (hE : E.2.2.2 = s.heap.size) (hI : mt_I E s) {i : Nat} (hi : i + 5 ≤ L) {M : mt_M} {u : mt_U} (hM : rl M) {H : Heap} {locs : List Loc} {ls : Array Slot} (hH : mt_H E M u H) (hS : va_S (mt_A E) s.heap H locs) (hl : lv_has ls 4 [(3, .int (nI i)), (0, .ref b), (1, .ref (E.2.1 0)), (2, .ref (E.2.1 147))]) (kk : ∀ (M' : mt_M) (u' : mt_U) (H' : Heap) (locs' : List Loc), rl M' → mt_H E M' u' H' → va_S (mt_A E) s.heap H' locs' → W p l e room_1 s mid #[Value.ref b] below meth c0 H' locs' 164 2388 (lw_Z below #[Value.ref b] s) (F0 mid 1661 ls [])) : W p l e room_1 s mid #[Value.ref b] below meth c0 H locs 164 2388 (lw_Z below #[Value.ref b] s) (F0 mid 1063 ls []) := by
  obtain ⟨hx, hb, hr, hml, hown, hts0, hX, hbl, hlocks, hgv⟩ := id C0
  have hown : s.vm.findClass RL = some mid.cls := hown
  have hts : ∀ w ∈ wsL_law, w.before #[Value.ref b] s = true := fun w h => hts0 w (wsL_law_in w h)
  have hbA : ¬ (mt_A E) b := la_b hE hbl
  have n1 : vp_in (nI i + 1) L := la_n1 hL hi
  have n2 : vp_in (nI i + 2) L := la_n2 hL hi
  have n3 : vp_in (nI i + 3) L := la_n3 hL hi
  obtain ⟨r, M1, M2, f1, f2, h2⟩ := cl_bars (xs (nI i + 1).toNatClampNeg) (xs (nI i + 2).toNatClampNeg) (xs (nI i + 3).toNatClampNeg) M hM
  refine lv_aload_n hx hb dL_law_1063 rfl (lv_at hl 2 rfl) ?_
  refine lv_aload_n hx hb dL_law_1064 rfl (lv_at hl 1 rfl) ?_
  refine lv_iload_n hx hb dL_law_1065 rfl (lv_at hl 0 rfl) ?_
  refine lv_iconst (v := 1) hx hb dL_law_1066 (by decide) ?_
  refine lv_iadd hx hb dL_law_1067 ?_
  refine va_sld hx hb hX hbl hbA hS n1 dL_law_1068 ?_
  refine lv_aload_n hx hb dL_law_1069 rfl (lv_at hl 1 rfl) ?_
  refine lv_iload_n hx hb dL_law_1070 rfl (lv_at hl 0 rfl) ?_
  refine lv_iconst (v := 2) hx hb dL_law_1071 (by decide) ?_
  refine lv_iadd hx hb dL_law_1072 ?_
  refine va_sld hx hb hX hbl hbA hS n2 dL_law_1073 ?_
  refine lv_aload_n hx hb dL_law_1074 rfl (lv_at hl 1 rfl) ?_
  refine lv_iload_n hx hb dL_law_1075 rfl (lv_at hl 0 rfl) ?_
  refine lv_iconst (v := 3) hx hb dL_law_1076 (by decide) ?_
  refine lv_iadd hx hb dL_law_1077 ?_
  refine va_sld hx hb hX hbl hbA hS n3 dL_law_1078 ?_
  refine mt_goi (mt_runV (i := 0) (As := [.int (xs (nI i + 1).toNatClampNeg), .int (xs (nI i + 2).toNatClampNeg), .int (xs (nI i + 3).toNatClampNeg)]) (rest := []) ⟨hx, hb, hml, hown, hts⟩ hI hH (c_X11_bars l E (xs (nI i + 1).toNatClampNeg) (xs (nI i + 2).toNatClampNeg) (xs (nI i + 3).toNatClampNeg) M u _ _ f1) (cwV 3 hts gL_law_X11_bars rfl rfl rfl (by decide +kernel) ⟨Nat.le_of_ble_eq_true rfl, Nat.le_of_ble_eq_true rfl⟩) mt_T0 rfl rfl hl.1 rfl (Nat.le_of_ble_eq_true rfl) dL_law_1079 ⟨Nat.le_of_ble_eq_true rfl, Nat.le_of_ble_eq_true rfl⟩) hS (fun H locs hH hS => ?_)
  refine lv_aload_n hx hb dL_law_1082 rfl (lv_at hl 3 rfl) ?_
  refine lv_aload_n hx hb dL_law_1083 rfl (lv_at hl 1 rfl) ?_
  refine lv_iload_n hx hb dL_law_1084 rfl (lv_at hl 0 rfl) ?_
  refine lv_iconst (v := 1) hx hb dL_law_1085 (by decide) ?_
  refine lv_iadd hx hb dL_law_1086 ?_
  refine va_sld hx hb hX hbl hbA hS n1 dL_law_1087 ?_
  refine lv_aload_n hx hb dL_law_1088 rfl (lv_at hl 1 rfl) ?_
  refine lv_iload_n hx hb dL_law_1089 rfl (lv_at hl 0 rfl) ?_
  refine lv_iconst (v := 2) hx hb dL_law_1090 (by decide) ?_
  refine lv_iadd hx hb dL_law_1091 ?_
  refine va_sld hx hb hX hbl hbA hS n2 dL_law_1092 ?_
  refine lv_aload_n hx hb dL_law_1093 rfl (lv_at hl 1 rfl) ?_
  refine lv_iload_n hx hb dL_law_1094 rfl (lv_at hl 0 rfl) ?_
  refine lv_iconst (v := 3) hx hb dL_law_1095 (by decide) ?_
  refine lv_iadd hx hb dL_law_1096 ?_
  refine va_sld hx hb hX hbl hbA hS n3 dL_law_1097 ?_
  refine mt_goi (mt_runV (i := 147) (As := [.int (xs (nI i + 1).toNatClampNeg), .int (xs (nI i + 2).toNatClampNeg), .int (xs (nI i + 3).toNatClampNeg)]) (rest := [.int r]) ⟨hx, hb, hml, hown, hts⟩ hI hH (c_X12_bars l E (xs (nI i + 1).toNatClampNeg) (xs (nI i + 2).toNatClampNeg) (xs (nI i + 3).toNatClampNeg) M1 u _ _ f2) (cwV 3 hts gL_law_X12_bars rfl rfl rfl (by decide +kernel) ⟨Nat.le_of_ble_eq_true rfl, Nat.le_of_ble_eq_true rfl⟩) mt_T147 rfl rfl hl.1 rfl (Nat.le_of_ble_eq_true rfl) dL_law_1098 ⟨Nat.le_of_ble_eq_true rfl, Nat.le_of_ble_eq_true rfl⟩) hS (fun H locs hH hS => ?_)
  exact lv_icmp_eq (tgt := 1661) hx hb dL_law_1101 (by decide) (fun _ => kk M2 u H locs h2 hH hS) (fun c9 => absurd rfl c9)
set_option maxHeartbeats 4000000 in
set_option maxRecDepth 100000 in
/-- alike -/
theorem la_28 {p : Program} {e : Env} {s : State} {mid : MethodId} {below : List Frame} {meth : Method} {c0 : Code} (l : Launch) {b L : Nat} {xs : Nat → Int32} (hL : L ≤ 2560) (C0 : lw_At p s mid meth c0 b L xs) {E : mt_E} (hE : E.2.2.2 = s.heap.size) (hI : mt_I E s) {i : Nat} (hi : i + 5 ≤ L) {M : mt_M} {u : mt_U} (hM : rl M) {H : Heap} {locs : List Loc} {ls : Array Slot} (hH : mt_H E M u H) (hS : va_S (mt_A E) s.heap H locs) (hl : lv_has ls 4 [(3, .int (nI i)), (0, .ref b), (1, .ref (E.2.1 0)), (2, .ref (E.2.1 147))]) (kk : ∀ (M' : mt_M) (u' : mt_U) (H' : Heap) (locs' : List Loc), rl M' → mt_H E M' u' H' → va_S (mt_A E) s.heap H' locs' → W p l e room_1 s mid #[Value.ref b] below meth c0 H' locs' 164 2388 (lw_Z below #[Value.ref b] s) (F0 mid 1661 ls [])) : W p l e room_1 s mid #[Value.ref b] below meth c0 H locs 164 2388 (lw_Z below #[Value.ref b] s) (F0 mid 1106 ls []) := by
  obtain ⟨hx, hb, hr, hml, hown, hts0, hX, hbl, hlocks, hgv⟩ := id C0
  have hown : s.vm.findClass RL = some mid.cls := hown
  have hts : ∀ w ∈ wsL_law, w.before #[Value.ref b] s = true := fun w h => hts0 w (wsL_law_in w h)
  have hbA : ¬ (mt_A E) b := la_b hE hbl
  have n1 : vp_in (nI i + 1) L := la_n1 hL hi
  obtain ⟨r, M1, M2, f1, f2, h2⟩ := cl_alike (xs (nI i + 1).toNatClampNeg) M hM
  refine lv_aload_n hx hb dL_law_1106 rfl (lv_at hl 2 rfl) ?_
  refine lv_aload_n hx hb dL_law_1107 rfl (lv_at hl 1 rfl) ?_
  refine lv_iload_n hx hb dL_law_1108 rfl (lv_at hl 0 rfl) ?_
  refine lv_iconst (v := 1) hx hb dL_law_1109 (by decide) ?_
  refine lv_iadd hx hb dL_law_1110 ?_
  refine va_sld hx hb hX hbl hbA hS n1 dL_law_1111 ?_
  refine mt_goi (mt_runV (i := 0) (As := [.int (xs (nI i + 1).toNatClampNeg)]) (rest := []) ⟨hx, hb, hml, hown, hts⟩ hI hH (c_X11_alike l E (xs (nI i + 1).toNatClampNeg) M u _ _ f1) (cwV 1 hts gL_law_X11_alike rfl rfl rfl (by decide +kernel) ⟨Nat.le_of_ble_eq_true rfl, Nat.le_of_ble_eq_true rfl⟩) mt_T0 rfl rfl hl.1 rfl (Nat.le_of_ble_eq_true rfl) dL_law_1112 ⟨Nat.le_of_ble_eq_true rfl, Nat.le_of_ble_eq_true rfl⟩) hS (fun H locs hH hS => ?_)
  refine lv_aload_n hx hb dL_law_1115 rfl (lv_at hl 3 rfl) ?_
  refine lv_aload_n hx hb dL_law_1116 rfl (lv_at hl 1 rfl) ?_
  refine lv_iload_n hx hb dL_law_1117 rfl (lv_at hl 0 rfl) ?_
  refine lv_iconst (v := 1) hx hb dL_law_1118 (by decide) ?_
  refine lv_iadd hx hb dL_law_1119 ?_
  refine va_sld hx hb hX hbl hbA hS n1 dL_law_1120 ?_
  refine mt_goi (mt_runV (i := 147) (As := [.int (xs (nI i + 1).toNatClampNeg)]) (rest := [.int r]) ⟨hx, hb, hml, hown, hts⟩ hI hH (c_X12_alike l E (xs (nI i + 1).toNatClampNeg) M1 u _ _ f2) (cwV 1 hts gL_law_X12_alike rfl rfl rfl (by decide +kernel) ⟨Nat.le_of_ble_eq_true rfl, Nat.le_of_ble_eq_true rfl⟩) mt_T147 rfl rfl hl.1 rfl (Nat.le_of_ble_eq_true rfl) dL_law_1121 ⟨Nat.le_of_ble_eq_true rfl, Nat.le_of_ble_eq_true rfl⟩) hS (fun H locs hH hS => ?_)
  exact lv_icmp_eq (tgt := 1661) hx hb dL_law_1124 (by decide) (fun _ => kk M2 u H locs h2 hH hS) (fun c9 => absurd rfl c9)
set_option maxHeartbeats 4000000 in
set_option maxRecDepth 100000 in
/-- turns -/
theorem la_29 {p : Program} {e : Env} {s : State} {mid : MethodId} {below : List Frame} {meth : Method} {c0 : Code} (l : Launch) {b L : Nat} {xs : Nat → Int32} (hL : L ≤ 2560) (C0 : lw_At p s mid meth c0 b L xs) {E : mt_E} (hE : E.2.2.2 = s.heap.size) (hI : mt_I E s) {i : Nat} (hi : i + 5 ≤ L) {M : mt_M} {u : mt_U} (hM : rl M) {H : Heap} {locs : List Loc} {ls : Array Slot} (hH : mt_H E M u H) (hS : va_S (mt_A E) s.heap H locs) (hl : lv_has ls 4 [(3, .int (nI i)), (0, .ref b), (1, .ref (E.2.1 0)), (2, .ref (E.2.1 147))]) (kk : ∀ (M' : mt_M) (u' : mt_U) (H' : Heap) (locs' : List Loc), rl M' → mt_H E M' u' H' → va_S (mt_A E) s.heap H' locs' → W p l e room_1 s mid #[Value.ref b] below meth c0 H' locs' 164 2388 (lw_Z below #[Value.ref b] s) (F0 mid 1661 ls [])) : W p l e room_1 s mid #[Value.ref b] below meth c0 H locs 164 2388 (lw_Z below #[Value.ref b] s) (F0 mid 1129 ls []) := by
  obtain ⟨hx, hb, hr, hml, hown, hts0, hX, hbl, hlocks, hgv⟩ := id C0
  have hown : s.vm.findClass RL = some mid.cls := hown
  have hts : ∀ w ∈ wsL_law, w.before #[Value.ref b] s = true := fun w h => hts0 w (wsL_law_in w h)
  have hbA : ¬ (mt_A E) b := la_b hE hbl
  have n1 : vp_in (nI i + 1) L := la_n1 hL hi
  have n2 : vp_in (nI i + 2) L := la_n2 hL hi
  obtain ⟨r, M1, M2, f1, f2, h2⟩ := cl_turns (xs (nI i + 1).toNatClampNeg) (xs (nI i + 2).toNatClampNeg) M hM
  refine lv_aload_n hx hb dL_law_1129 rfl (lv_at hl 2 rfl) ?_
  refine lv_aload_n hx hb dL_law_1130 rfl (lv_at hl 1 rfl) ?_
  refine lv_iload_n hx hb dL_law_1131 rfl (lv_at hl 0 rfl) ?_
  refine lv_iconst (v := 1) hx hb dL_law_1132 (by decide) ?_
  refine lv_iadd hx hb dL_law_1133 ?_
  refine va_sld hx hb hX hbl hbA hS n1 dL_law_1134 ?_
  refine lv_aload_n hx hb dL_law_1135 rfl (lv_at hl 1 rfl) ?_
  refine lv_iload_n hx hb dL_law_1136 rfl (lv_at hl 0 rfl) ?_
  refine lv_iconst (v := 2) hx hb dL_law_1137 (by decide) ?_
  refine lv_iadd hx hb dL_law_1138 ?_
  refine va_sld hx hb hX hbl hbA hS n2 dL_law_1139 ?_
  refine mt_goi (mt_runV (i := 0) (As := [.int (xs (nI i + 1).toNatClampNeg), .int (xs (nI i + 2).toNatClampNeg)]) (rest := []) ⟨hx, hb, hml, hown, hts⟩ hI hH (c_X11_turns l E (xs (nI i + 1).toNatClampNeg) (xs (nI i + 2).toNatClampNeg) M u _ _ f1) (cwV 2 hts gL_law_X11_turns rfl rfl rfl (by decide +kernel) ⟨Nat.le_of_ble_eq_true rfl, Nat.le_of_ble_eq_true rfl⟩) mt_T0 rfl rfl hl.1 rfl (Nat.le_of_ble_eq_true rfl) dL_law_1140 ⟨Nat.le_of_ble_eq_true rfl, Nat.le_of_ble_eq_true rfl⟩) hS (fun H locs hH hS => ?_)
  refine lv_aload_n hx hb dL_law_1143 rfl (lv_at hl 3 rfl) ?_
  refine lv_aload_n hx hb dL_law_1144 rfl (lv_at hl 1 rfl) ?_
  refine lv_iload_n hx hb dL_law_1145 rfl (lv_at hl 0 rfl) ?_
  refine lv_iconst (v := 1) hx hb dL_law_1146 (by decide) ?_
  refine lv_iadd hx hb dL_law_1147 ?_
  refine va_sld hx hb hX hbl hbA hS n1 dL_law_1148 ?_
  refine lv_aload_n hx hb dL_law_1149 rfl (lv_at hl 1 rfl) ?_
  refine lv_iload_n hx hb dL_law_1150 rfl (lv_at hl 0 rfl) ?_
  refine lv_iconst (v := 2) hx hb dL_law_1151 (by decide) ?_
  refine lv_iadd hx hb dL_law_1152 ?_
  refine va_sld hx hb hX hbl hbA hS n2 dL_law_1153 ?_
  refine mt_goi (mt_runV (i := 147) (As := [.int (xs (nI i + 1).toNatClampNeg), .int (xs (nI i + 2).toNatClampNeg)]) (rest := [.int r]) ⟨hx, hb, hml, hown, hts⟩ hI hH (c_X12_turns l E (xs (nI i + 1).toNatClampNeg) (xs (nI i + 2).toNatClampNeg) M1 u _ _ f2) (cwV 2 hts gL_law_X12_turns rfl rfl rfl (by decide +kernel) ⟨Nat.le_of_ble_eq_true rfl, Nat.le_of_ble_eq_true rfl⟩) mt_T147 rfl rfl hl.1 rfl (Nat.le_of_ble_eq_true rfl) dL_law_1154 ⟨Nat.le_of_ble_eq_true rfl, Nat.le_of_ble_eq_true rfl⟩) hS (fun H locs hH hS => ?_)
  exact lv_icmp_eq (tgt := 1661) hx hb dL_law_1157 (by decide) (fun _ => kk M2 u H locs h2 hH hS) (fun c9 => absurd rfl c9)
set_option maxHeartbeats 4000000 in
set_option maxRecDepth 100000 in
/-- paper -/
theorem la_30 {p : Program} {e : Env} {s : State} {mid : MethodId} {below : List Frame} {meth : Method} {c0 : Code} (l : Launch) {b L : Nat} {xs : Nat → Int32} (hL : L ≤ 2560) (C0 : lw_At p s mid meth c0 b L xs) {E : mt_E} (hE : E.2.2.2 = s.heap.size) (hI : mt_I E s) {i : Nat} (hi : i + 5 ≤ L) {M : mt_M} {u : mt_U} (hM : rl M) {H : Heap} {locs : List Loc} {ls : Array Slot} (hH : mt_H E M u H) (hS : va_S (mt_A E) s.heap H locs) (hl : lv_has ls 4 [(3, .int (nI i)), (0, .ref b), (1, .ref (E.2.1 0)), (2, .ref (E.2.1 147))]) (kk : ∀ (M' : mt_M) (u' : mt_U) (H' : Heap) (locs' : List Loc), rl M' → mt_H E M' u' H' → va_S (mt_A E) s.heap H' locs' → W p l e room_1 s mid #[Value.ref b] below meth c0 H' locs' 164 2388 (lw_Z below #[Value.ref b] s) (F0 mid 1661 ls [])) : W p l e room_1 s mid #[Value.ref b] below meth c0 H locs 164 2388 (lw_Z below #[Value.ref b] s) (F0 mid 1162 ls []) := by
  obtain ⟨hx, hb, hr, hml, hown, hts0, hX, hbl, hlocks, hgv⟩ := id C0
  have hown : s.vm.findClass RL = some mid.cls := hown
  have hts : ∀ w ∈ wsL_law, w.before #[Value.ref b] s = true := fun w h => hts0 w (wsL_law_in w h)
  have hbA : ¬ (mt_A E) b := la_b hE hbl
  have n1 : vp_in (nI i + 1) L := la_n1 hL hi
  obtain ⟨r, M1, M2, f1, f2, h2⟩ := cl_paper (xs (nI i + 1).toNatClampNeg) M hM
  refine lv_aload_n hx hb dL_law_1162 rfl (lv_at hl 2 rfl) ?_
  refine lv_aload_n hx hb dL_law_1163 rfl (lv_at hl 1 rfl) ?_
  refine lv_iload_n hx hb dL_law_1164 rfl (lv_at hl 0 rfl) ?_
  refine lv_iconst (v := 1) hx hb dL_law_1165 (by decide) ?_
  refine lv_iadd hx hb dL_law_1166 ?_
  refine va_sld hx hb hX hbl hbA hS n1 dL_law_1167 ?_
  refine mt_goi (mt_runV (i := 0) (As := [.int (xs (nI i + 1).toNatClampNeg)]) (rest := []) ⟨hx, hb, hml, hown, hts⟩ hI hH (c_X11_paper l E (xs (nI i + 1).toNatClampNeg) M u _ _ f1) (cwV 1 hts gL_law_X11_paper rfl rfl rfl (by decide +kernel) ⟨Nat.le_of_ble_eq_true rfl, Nat.le_of_ble_eq_true rfl⟩) mt_T0 rfl rfl hl.1 rfl (Nat.le_of_ble_eq_true rfl) dL_law_1168 ⟨Nat.le_of_ble_eq_true rfl, Nat.le_of_ble_eq_true rfl⟩) hS (fun H locs hH hS => ?_)
  refine lv_aload_n hx hb dL_law_1171 rfl (lv_at hl 3 rfl) ?_
  refine lv_aload_n hx hb dL_law_1172 rfl (lv_at hl 1 rfl) ?_
  refine lv_iload_n hx hb dL_law_1173 rfl (lv_at hl 0 rfl) ?_
  refine lv_iconst (v := 1) hx hb dL_law_1174 (by decide) ?_
  refine lv_iadd hx hb dL_law_1175 ?_
  refine va_sld hx hb hX hbl hbA hS n1 dL_law_1176 ?_
  refine mt_goi (mt_runV (i := 147) (As := [.int (xs (nI i + 1).toNatClampNeg)]) (rest := [.int r]) ⟨hx, hb, hml, hown, hts⟩ hI hH (c_X12_paper l E (xs (nI i + 1).toNatClampNeg) M1 u _ _ f2) (cwV 1 hts gL_law_X12_paper rfl rfl rfl (by decide +kernel) ⟨Nat.le_of_ble_eq_true rfl, Nat.le_of_ble_eq_true rfl⟩) mt_T147 rfl rfl hl.1 rfl (Nat.le_of_ble_eq_true rfl) dL_law_1177 ⟨Nat.le_of_ble_eq_true rfl, Nat.le_of_ble_eq_true rfl⟩) hS (fun H locs hH hS => ?_)
  exact lv_icmp_eq (tgt := 1661) hx hb dL_law_1180 (by decide) (fun _ => kk M2 u H locs h2 hH hS) (fun c9 => absurd rfl c9)
set_option maxHeartbeats 4000000 in
set_option maxRecDepth 100000 in
/-- fridge -/
theorem la_31 {p : Program} {e : Env} {s : State} {mid : MethodId} {below : List Frame} {meth : Method} {c0 : Code} (l : Launch) {b L : Nat} {xs : Nat → Int32} (hL : L ≤ 2560) (C0 : lw_At p s mid meth c0 b L xs) {E : mt_E} (hE : E.2.2.2 = s.heap.size) (hI : mt_I E s) {i : Nat} (hi : i + 5 ≤ L) {M : mt_M} {u : mt_U} (hM : rl M) {H : Heap} {locs : List Loc} {ls : Array Slot} (hH : mt_H E M u H) (hS : va_S (mt_A E) s.heap H locs) (hl : lv_has ls 4 [(3, .int (nI i)), (0, .ref b), (1, .ref (E.2.1 0)), (2, .ref (E.2.1 147))]) (kk : ∀ (M' : mt_M) (u' : mt_U) (H' : Heap) (locs' : List Loc), rl M' → mt_H E M' u' H' → va_S (mt_A E) s.heap H' locs' → W p l e room_1 s mid #[Value.ref b] below meth c0 H' locs' 164 2388 (lw_Z below #[Value.ref b] s) (F0 mid 1661 ls [])) : W p l e room_1 s mid #[Value.ref b] below meth c0 H locs 164 2388 (lw_Z below #[Value.ref b] s) (F0 mid 1185 ls []) := by
  obtain ⟨hx, hb, hr, hml, hown, hts0, hX, hbl, hlocks, hgv⟩ := id C0
  have hown : s.vm.findClass RL = some mid.cls := hown
  have hts : ∀ w ∈ wsL_law, w.before #[Value.ref b] s = true := fun w h => hts0 w (wsL_law_in w h)
  have hbA : ¬ (mt_A E) b := la_b hE hbl
  have n1 : vp_in (nI i + 1) L := la_n1 hL hi
  have n2 : vp_in (nI i + 2) L := la_n2 hL hi
  obtain ⟨r, M1, M2, f1, f2, h2⟩ := cl_fridge (xs (nI i + 1).toNatClampNeg) (xs (nI i + 2).toNatClampNeg) M hM
  refine lv_aload_n hx hb dL_law_1185 rfl (lv_at hl 2 rfl) ?_
  refine lv_aload_n hx hb dL_law_1186 rfl (lv_at hl 1 rfl) ?_
  refine lv_iload_n hx hb dL_law_1187 rfl (lv_at hl 0 rfl) ?_
  refine lv_iconst (v := 1) hx hb dL_law_1188 (by decide) ?_
  refine lv_iadd hx hb dL_law_1189 ?_
  refine va_sld hx hb hX hbl hbA hS n1 dL_law_1190 ?_
  refine lv_aload_n hx hb dL_law_1191 rfl (lv_at hl 1 rfl) ?_
  refine lv_iload_n hx hb dL_law_1192 rfl (lv_at hl 0 rfl) ?_
  refine lv_iconst (v := 2) hx hb dL_law_1193 (by decide) ?_
  refine lv_iadd hx hb dL_law_1194 ?_
  refine va_sld hx hb hX hbl hbA hS n2 dL_law_1195 ?_
  refine mt_goi (mt_runV (i := 0) (As := [.int (xs (nI i + 1).toNatClampNeg), .int (xs (nI i + 2).toNatClampNeg)]) (rest := []) ⟨hx, hb, hml, hown, hts⟩ hI hH (c_X11_fridge l E (xs (nI i + 1).toNatClampNeg) (xs (nI i + 2).toNatClampNeg) M u _ _ f1) (cwV 2 hts gL_law_X11_fridge rfl rfl rfl (by decide +kernel) ⟨Nat.le_of_ble_eq_true rfl, Nat.le_of_ble_eq_true rfl⟩) mt_T0 rfl rfl hl.1 rfl (Nat.le_of_ble_eq_true rfl) dL_law_1196 ⟨Nat.le_of_ble_eq_true rfl, Nat.le_of_ble_eq_true rfl⟩) hS (fun H locs hH hS => ?_)
  refine lv_aload_n hx hb dL_law_1199 rfl (lv_at hl 3 rfl) ?_
  refine lv_aload_n hx hb dL_law_1200 rfl (lv_at hl 1 rfl) ?_
  refine lv_iload_n hx hb dL_law_1201 rfl (lv_at hl 0 rfl) ?_
  refine lv_iconst (v := 1) hx hb dL_law_1202 (by decide) ?_
  refine lv_iadd hx hb dL_law_1203 ?_
  refine va_sld hx hb hX hbl hbA hS n1 dL_law_1204 ?_
  refine lv_aload_n hx hb dL_law_1205 rfl (lv_at hl 1 rfl) ?_
  refine lv_iload_n hx hb dL_law_1206 rfl (lv_at hl 0 rfl) ?_
  refine lv_iconst (v := 2) hx hb dL_law_1207 (by decide) ?_
  refine lv_iadd hx hb dL_law_1208 ?_
  refine va_sld hx hb hX hbl hbA hS n2 dL_law_1209 ?_
  refine mt_goi (mt_runV (i := 147) (As := [.int (xs (nI i + 1).toNatClampNeg), .int (xs (nI i + 2).toNatClampNeg)]) (rest := [.int r]) ⟨hx, hb, hml, hown, hts⟩ hI hH (c_X12_fridge l E (xs (nI i + 1).toNatClampNeg) (xs (nI i + 2).toNatClampNeg) M1 u _ _ f2) (cwV 2 hts gL_law_X12_fridge rfl rfl rfl (by decide +kernel) ⟨Nat.le_of_ble_eq_true rfl, Nat.le_of_ble_eq_true rfl⟩) mt_T147 rfl rfl hl.1 rfl (Nat.le_of_ble_eq_true rfl) dL_law_1210 ⟨Nat.le_of_ble_eq_true rfl, Nat.le_of_ble_eq_true rfl⟩) hS (fun H locs hH hS => ?_)
  exact lv_icmp_eq (tgt := 1661) hx hb dL_law_1213 (by decide) (fun _ => kk M2 u H locs h2 hH hS) (fun c9 => absurd rfl c9)
set_option maxHeartbeats 4000000 in
set_option maxRecDepth 100000 in
/-- latest -/
theorem la_32 {p : Program} {e : Env} {s : State} {mid : MethodId} {below : List Frame} {meth : Method} {c0 : Code} (l : Launch) {b L : Nat} {xs : Nat → Int32} (hL : L ≤ 2560) (C0 : lw_At p s mid meth c0 b L xs) {E : mt_E} (hE : E.2.2.2 = s.heap.size) (hI : mt_I E s) {i : Nat} (hi : i + 5 ≤ L) {M : mt_M} {u : mt_U} (hM : rl M) {H : Heap} {locs : List Loc} {ls : Array Slot} (hH : mt_H E M u H) (hS : va_S (mt_A E) s.heap H locs) (hl : lv_has ls 4 [(3, .int (nI i)), (0, .ref b), (1, .ref (E.2.1 0)), (2, .ref (E.2.1 147))]) (kk : ∀ (M' : mt_M) (u' : mt_U) (H' : Heap) (locs' : List Loc), rl M' → mt_H E M' u' H' → va_S (mt_A E) s.heap H' locs' → W p l e room_1 s mid #[Value.ref b] below meth c0 H' locs' 164 2388 (lw_Z below #[Value.ref b] s) (F0 mid 1661 ls [])) : W p l e room_1 s mid #[Value.ref b] below meth c0 H locs 164 2388 (lw_Z below #[Value.ref b] s) (F0 mid 1218 ls []) := by
  obtain ⟨hx, hb, hr, hml, hown, hts0, hX, hbl, hlocks, hgv⟩ := id C0
  have hown : s.vm.findClass RL = some mid.cls := hown
  have hts : ∀ w ∈ wsL_law, w.before #[Value.ref b] s = true := fun w h => hts0 w (wsL_law_in w h)
  have hbA : ¬ (mt_A E) b := la_b hE hbl
  obtain ⟨r, f1, f2⟩ := cl_latest  M hM
  refine lv_aload_n hx hb dL_law_1218 rfl (lv_at hl 2 rfl) ?_
  refine mt_goi (mt_runV (i := 0) (As := []) (rest := []) ⟨hx, hb, hml, hown, hts⟩ hI hH (c_X11_latest l E  M u _ f1) (cwV 0 hts gL_law_X11_latest rfl rfl rfl (by decide +kernel) ⟨Nat.le_of_ble_eq_true rfl, Nat.le_of_ble_eq_true rfl⟩) mt_T0 rfl rfl hl.1 rfl (Nat.le_of_ble_eq_true rfl) dL_law_1219 ⟨Nat.le_of_ble_eq_true rfl, Nat.le_of_ble_eq_true rfl⟩) hS (fun H locs hH hS => ?_)
  refine lv_aload_n hx hb dL_law_1222 rfl (lv_at hl 3 rfl) ?_
  refine mt_goi (mt_runV (i := 147) (As := []) (rest := [.int r]) ⟨hx, hb, hml, hown, hts⟩ hI hH (c_X12_latest l E  M u _ f2) (cwV 0 hts gL_law_X12_latest rfl rfl rfl (by decide +kernel) ⟨Nat.le_of_ble_eq_true rfl, Nat.le_of_ble_eq_true rfl⟩) mt_T147 rfl rfl hl.1 rfl (Nat.le_of_ble_eq_true rfl) dL_law_1223 ⟨Nat.le_of_ble_eq_true rfl, Nat.le_of_ble_eq_true rfl⟩) hS (fun H locs hH hS => ?_)
  exact lv_icmp_eq (tgt := 1661) hx hb dL_law_1226 (by decide) (fun _ => kk M u H locs hM hH hS) (fun c9 => absurd rfl c9)
set_option maxHeartbeats 4000000 in
set_option maxRecDepth 100000 in
/-- twice -/
theorem la_33 {p : Program} {e : Env} {s : State} {mid : MethodId} {below : List Frame} {meth : Method} {c0 : Code} (l : Launch) {b L : Nat} {xs : Nat → Int32} (hL : L ≤ 2560) (C0 : lw_At p s mid meth c0 b L xs) {E : mt_E} (hE : E.2.2.2 = s.heap.size) (hI : mt_I E s) {i : Nat} (hi : i + 5 ≤ L) {M : mt_M} {u : mt_U} (hM : rl M) {H : Heap} {locs : List Loc} {ls : Array Slot} (hH : mt_H E M u H) (hS : va_S (mt_A E) s.heap H locs) (hl : lv_has ls 4 [(3, .int (nI i)), (0, .ref b), (1, .ref (E.2.1 0)), (2, .ref (E.2.1 147))]) (kk : ∀ (M' : mt_M) (u' : mt_U) (H' : Heap) (locs' : List Loc), rl M' → mt_H E M' u' H' → va_S (mt_A E) s.heap H' locs' → W p l e room_1 s mid #[Value.ref b] below meth c0 H' locs' 164 2388 (lw_Z below #[Value.ref b] s) (F0 mid 1661 ls [])) : W p l e room_1 s mid #[Value.ref b] below meth c0 H locs 164 2388 (lw_Z below #[Value.ref b] s) (F0 mid 1231 ls []) := by
  obtain ⟨hx, hb, hr, hml, hown, hts0, hX, hbl, hlocks, hgv⟩ := id C0
  have hown : s.vm.findClass RL = some mid.cls := hown
  have hts : ∀ w ∈ wsL_law, w.before #[Value.ref b] s = true := fun w h => hts0 w (wsL_law_in w h)
  have hbA : ¬ (mt_A E) b := la_b hE hbl
  obtain ⟨r, f1, f2⟩ := cl_twice  M hM
  refine lv_aload_n hx hb dL_law_1231 rfl (lv_at hl 2 rfl) ?_
  refine mt_goi (mt_runV (i := 0) (As := []) (rest := []) ⟨hx, hb, hml, hown, hts⟩ hI hH (c_X11_twice l E  M u _ f1) (cwV 0 hts gL_law_X11_twice rfl rfl rfl (by decide +kernel) ⟨Nat.le_of_ble_eq_true rfl, Nat.le_of_ble_eq_true rfl⟩) mt_T0 rfl rfl hl.1 rfl (Nat.le_of_ble_eq_true rfl) dL_law_1232 ⟨Nat.le_of_ble_eq_true rfl, Nat.le_of_ble_eq_true rfl⟩) hS (fun H locs hH hS => ?_)
  refine lv_aload_n hx hb dL_law_1235 rfl (lv_at hl 3 rfl) ?_
  refine mt_goi (mt_runV (i := 147) (As := []) (rest := [.int r]) ⟨hx, hb, hml, hown, hts⟩ hI hH (c_X12_twice l E  M u _ f2) (cwV 0 hts gL_law_X12_twice rfl rfl rfl (by decide +kernel) ⟨Nat.le_of_ble_eq_true rfl, Nat.le_of_ble_eq_true rfl⟩) mt_T147 rfl rfl hl.1 rfl (Nat.le_of_ble_eq_true rfl) dL_law_1236 ⟨Nat.le_of_ble_eq_true rfl, Nat.le_of_ble_eq_true rfl⟩) hS (fun H locs hH hS => ?_)
  exact lv_icmp_eq (tgt := 1661) hx hb dL_law_1239 (by decide) (fun _ => kk M u H locs hM hH hS) (fun c9 => absurd rfl c9)
set_option maxHeartbeats 4000000 in
set_option maxRecDepth 100000 in
/-- month -/
theorem la_34 {p : Program} {e : Env} {s : State} {mid : MethodId} {below : List Frame} {meth : Method} {c0 : Code} (l : Launch) {b L : Nat} {xs : Nat → Int32} (hL : L ≤ 2560) (C0 : lw_At p s mid meth c0 b L xs) {E : mt_E} (hE : E.2.2.2 = s.heap.size) (hI : mt_I E s) {i : Nat} (hi : i + 5 ≤ L) {M : mt_M} {u : mt_U} (hM : rl M) {H : Heap} {locs : List Loc} {ls : Array Slot} (hH : mt_H E M u H) (hS : va_S (mt_A E) s.heap H locs) (hl : lv_has ls 4 [(3, .int (nI i)), (0, .ref b), (1, .ref (E.2.1 0)), (2, .ref (E.2.1 147))]) (kk : ∀ (M' : mt_M) (u' : mt_U) (H' : Heap) (locs' : List Loc), rl M' → mt_H E M' u' H' → va_S (mt_A E) s.heap H' locs' → W p l e room_1 s mid #[Value.ref b] below meth c0 H' locs' 164 2388 (lw_Z below #[Value.ref b] s) (F0 mid 1661 ls [])) : W p l e room_1 s mid #[Value.ref b] below meth c0 H locs 164 2388 (lw_Z below #[Value.ref b] s) (F0 mid 1244 ls []) := by
  obtain ⟨hx, hb, hr, hml, hown, hts0, hX, hbl, hlocks, hgv⟩ := id C0
  have hown : s.vm.findClass RL = some mid.cls := hown
  have hts : ∀ w ∈ wsL_law, w.before #[Value.ref b] s = true := fun w h => hts0 w (wsL_law_in w h)
  have hbA : ¬ (mt_A E) b := la_b hE hbl
  obtain ⟨r, M1, M2, f1, f2, h2⟩ := cl_month  M hM
  refine lv_aload_n hx hb dL_law_1244 rfl (lv_at hl 2 rfl) ?_
  refine mt_goi (mt_runV (i := 0) (As := []) (rest := []) ⟨hx, hb, hml, hown, hts⟩ hI hH (c_X11_month l E  M u _ _ f1) (cwV 0 hts gL_law_X11_month rfl rfl rfl (by decide +kernel) ⟨Nat.le_of_ble_eq_true rfl, Nat.le_of_ble_eq_true rfl⟩) mt_T0 rfl rfl hl.1 rfl (Nat.le_of_ble_eq_true rfl) dL_law_1245 ⟨Nat.le_of_ble_eq_true rfl, Nat.le_of_ble_eq_true rfl⟩) hS (fun H locs hH hS => ?_)
  refine lv_aload_n hx hb dL_law_1248 rfl (lv_at hl 3 rfl) ?_
  refine mt_goi (mt_runV (i := 147) (As := []) (rest := [.int r]) ⟨hx, hb, hml, hown, hts⟩ hI hH (c_X12_month l E  M1 u _ _ f2) (cwV 0 hts gL_law_X12_month rfl rfl rfl (by decide +kernel) ⟨Nat.le_of_ble_eq_true rfl, Nat.le_of_ble_eq_true rfl⟩) mt_T147 rfl rfl hl.1 rfl (Nat.le_of_ble_eq_true rfl) dL_law_1249 ⟨Nat.le_of_ble_eq_true rfl, Nat.le_of_ble_eq_true rfl⟩) hS (fun H locs hH hS => ?_)
  exact lv_icmp_eq (tgt := 1661) hx hb dL_law_1252 (by decide) (fun _ => kk M2 u H locs h2 hH hS) (fun c9 => absurd rfl c9)
set_option maxHeartbeats 4000000 in
set_option maxRecDepth 100000 in
/-- swap -/
theorem la_35 {p : Program} {e : Env} {s : State} {mid : MethodId} {below : List Frame} {meth : Method} {c0 : Code} (l : Launch) {b L : Nat} {xs : Nat → Int32} (hL : L ≤ 2560) (C0 : lw_At p s mid meth c0 b L xs) {E : mt_E} (hE : E.2.2.2 = s.heap.size) (hI : mt_I E s) {i : Nat} (hi : i + 5 ≤ L) {M : mt_M} {u : mt_U} (hM : rl M) {H : Heap} {locs : List Loc} {ls : Array Slot} (hH : mt_H E M u H) (hS : va_S (mt_A E) s.heap H locs) (hl : lv_has ls 4 [(3, .int (nI i)), (0, .ref b), (1, .ref (E.2.1 0)), (2, .ref (E.2.1 147))]) (kk : ∀ (M' : mt_M) (u' : mt_U) (H' : Heap) (locs' : List Loc), rl M' → mt_H E M' u' H' → va_S (mt_A E) s.heap H' locs' → W p l e room_1 s mid #[Value.ref b] below meth c0 H' locs' 164 2388 (lw_Z below #[Value.ref b] s) (F0 mid 1661 ls [])) : W p l e room_1 s mid #[Value.ref b] below meth c0 H locs 164 2388 (lw_Z below #[Value.ref b] s) (F0 mid 1257 ls []) := by
  obtain ⟨hx, hb, hr, hml, hown, hts0, hX, hbl, hlocks, hgv⟩ := id C0
  have hown : s.vm.findClass RL = some mid.cls := hown
  have hts : ∀ w ∈ wsL_law, w.before #[Value.ref b] s = true := fun w h => hts0 w (wsL_law_in w h)
  have hbA : ¬ (mt_A E) b := la_b hE hbl
  obtain ⟨r, M1, M2, f1, f2, h2⟩ := cl_swap  M hM
  refine lv_aload_n hx hb dL_law_1257 rfl (lv_at hl 2 rfl) ?_
  refine mt_goi (mt_runV (i := 0) (As := []) (rest := []) ⟨hx, hb, hml, hown, hts⟩ hI hH (c_X11_swap l E  M u _ _ f1) (cwV 0 hts gL_law_X11_swap rfl rfl rfl (by decide +kernel) ⟨Nat.le_of_ble_eq_true rfl, Nat.le_of_ble_eq_true rfl⟩) mt_T0 rfl rfl hl.1 rfl (Nat.le_of_ble_eq_true rfl) dL_law_1258 ⟨Nat.le_of_ble_eq_true rfl, Nat.le_of_ble_eq_true rfl⟩) hS (fun H locs hH hS => ?_)
  refine lv_aload_n hx hb dL_law_1261 rfl (lv_at hl 3 rfl) ?_
  refine mt_goi (mt_runV (i := 147) (As := []) (rest := [.int r]) ⟨hx, hb, hml, hown, hts⟩ hI hH (c_X12_swap l E  M1 u _ _ f2) (cwV 0 hts gL_law_X12_swap rfl rfl rfl (by decide +kernel) ⟨Nat.le_of_ble_eq_true rfl, Nat.le_of_ble_eq_true rfl⟩) mt_T147 rfl rfl hl.1 rfl (Nat.le_of_ble_eq_true rfl) dL_law_1262 ⟨Nat.le_of_ble_eq_true rfl, Nat.le_of_ble_eq_true rfl⟩) hS (fun H locs hH hS => ?_)
  exact lv_icmp_eq (tgt := 1661) hx hb dL_law_1265 (by decide) (fun _ => kk M2 u H locs h2 hH hS) (fun c9 => absurd rfl c9)

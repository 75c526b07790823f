/-! THE WALKS, laid by program: each method returns what its pure function says, and leaves the memory so -/
set_option maxHeartbeats 4000000 in
set_option maxRecDepth 100000 in
theorem c_X8_bestSwap (l : Launch) (E : mt_E)  (M : mt_M) (u : mt_U) (r : Int32) (M' : mt_M) (hf : f_X8_bestSwap M = some (r, M')) : Met l yX8_bestSwap wsX8_bestSwap ({ frames := 5, cells := 0, slots := 0, locals := 111 } : Room) (mt_P E [.ref (E.2.1 133)] M u) (mt_Qi E r M' u) 0 0 (mt_A E) := by
  refine Met.ofW (cc := cX8_bestSwap) (maxL := 5) (ret := (some .int)) (by decide) rfl ?_
  intro p e s mid args below meth c0 s₁ B hml hv
  obtain ⟨rfl, hI, hH⟩ := hv
  have hx := B.exec
  have hb := B.bytes
  have hr := B.returns
  have hts := atoms_spec (ws := wsX8_bestSwap) B.pre
  have hown : s.vm.findClass RX8 = some mid.cls := findClass_of_methodNamed B.named
  have hlocks := B.notSynchronized
  have hS : va_S (mt_A E) s.heap s.heap [] := va_S.rf
  have hl := lv_entry ([.ref (E.2.1 133)]) (n := 5) (Nat.le_of_ble_eq_true rfl)
  rw [lg_entry_eq]
  generalize (lg_sl ([.ref (E.2.1 133)]) ++ List.replicate (5 - (lg_sl ([.ref (E.2.1 133)])).length) Slot.unset).toArray = ls at hl ⊢
  have hl : lv_has ls 5 [(0, .ref (E.2.1 133))] := hl
  unfold f_X8_bestSwap at hf
  have kw0 := hts (.fieldLink RX8 21 "MilkTwice$Mind" "house" "LMilkTwice$House;") (List.mem_of_getElem? (i := 1) rfl)
  have kw1 := hts (.fieldLink RX8 30 "MilkTwice$Mind" "shelf" "LMilkTwice$Cupboard;") (List.mem_of_getElem? (i := 2) rfl)
  have hinX8 : ∀ w ∈ u_ws RX8 TX8 5, w ∈ wsX8_bestSwap := fun w h => List.mem_cons_of_mem _ (List.mem_append_left _ (List.mem_append_left _ (List.mem_append_right _ h)))
  have hinX4 : ∀ w ∈ u_ws RX4 TX4 6, w ∈ wsX8_bestSwap := fun w h => List.mem_cons_of_mem _ (List.mem_append_left _ (List.mem_append_right _ h))
  have hinX0 : ∀ w ∈ u_ws RX0 TX0 12, w ∈ wsX8_bestSwap := fun w h => List.mem_cons_of_mem _ (List.mem_append_right _ h)
  refine lv_bipush (v := (-9)) hx hb dX8_bestSwap_0 (by decide) ?_
  refine lv_istore_n (lv' := [(1, .int (-9 : Int32)), (0, .ref (E.2.1 133))]) hx hb dX8_bestSwap_2 rfl hl (by decide) rfl (fun ls hl => ?_)
  refine lv_aload_n hx hb dX8_bestSwap_3 rfl (lv_at hl 1 rfl) ?_
  refine lv_bipush (v := 7) hx hb dX8_bestSwap_4 (by decide) ?_
  refine mt_b2I hf (fun r2 M3 hg1 hf => ?_)
  refine mt_goi (mt_runV (i := 133) (As := [.int (7 : Int32)]) (rest := []) ⟨hx, hb, hml, hown, hts⟩ hI hH (c_X8_lackedIn l E (7 : Int32) M u _ _ hg1) (cwV 1 hts gX8_bestSwap_X8_lackedIn rfl rfl rfl (by decide +kernel) ⟨Nat.le_of_ble_eq_true rfl, Nat.le_of_ble_eq_true rfl⟩) mt_T133 rfl rfl hl.1 rfl (Nat.le_of_ble_eq_true rfl) dX8_bestSwap_6 ⟨Nat.zero_le _, Nat.zero_le _⟩) hS (fun H locs hH hS => ?_)
  refine lv_istore_n (lv' := [(2, .int r2), (1, .int (-9 : Int32)), (0, .ref (E.2.1 133))]) hx hb dX8_bestSwap_9 rfl hl (by decide) rfl (fun ls hl => ?_)
  refine lv_iconst (v := 0) hx hb dX8_bestSwap_10 (by decide) ?_
  refine lv_istore_n (lv' := [(3, .int (0 : Int32)), (2, .int r2), (1, .int (-9 : Int32)), (0, .ref (E.2.1 133))]) hx hb dX8_bestSwap_11 rfl hl (by decide) rfl (fun ls hl => ?_)
  refine mt_lpI4 hf (fun (x4 : Int32) (x5 : Int32) (x6 : Int32) (M7 : mt_M) => ∀ (H : Heap) (locs : List Loc) (ls : Array Slot), mt_H E M7 u H → va_S (mt_A E) s.heap H locs → lv_has ls 5 [(0, .ref (E.2.1 133)), (1, .int x4), (2, .int x5), (3, .int x6)] → W p l e (headSpec wsX8_bestSwap ({ frames := 5, cells := 0, slots := 0, locals := 111 } : Room)).room s mid (([.ref (E.2.1 133)] : List Value).toArray) below meth c0 H locs 0 0 (MQ below (mt_Qi E r M' u) (([.ref (E.2.1 133)] : List Value).toArray) s 0 0 (mt_A E)) (F0 mid 12 ls [])) ?_ _ _ _ hH hS (lv_sub hl [3, 2, 1, 0] rfl)
  intro k8 ih9 x4 x5 x6 M7 hf H locs ls hH hS hl
  refine lv_iload_n hx hb dX8_bestSwap_12 rfl (lv_at hl 3 rfl) ?_
  refine lv_aload_n hx hb dX8_bestSwap_13 rfl (lv_at hl 0 rfl) ?_
  refine mt_getr (C := RX8) (T := TX8) (N := 5) hx hb hts hinX8 hown hI hH mt_T133 rfl 0 (by decide) kw0 rfl rfl dX8_bestSwap_14 ?_
  refine mt_getrN (C := RX4) (T := TX4) (N := 6) hx hb hts hinX4 hown hI hH mt_T10 rfl 0 (by decide) (List.mem_of_getElem? (i := 9) rfl) rfl rfl dX8_bestSwap_17 ?_
  refine mt_getiN (C := RX0) (T := TX0) (N := 12) hx hb hts hinX0 hown hI hH mt_T13 rfl 8 (by decide) (List.mem_of_getElem? (i := 1) rfl) rfl rfl dX8_bestSwap_20 ?_
  refine lv_icmp_ge (tgt := 105) hx hb dX8_bestSwap_23 (by decide) (fun c10 => ?_) (fun c10 => ?_)
  · have hf := mt_ifT c10 hf
    refine lv_iload_n hx hb dX8_bestSwap_105 rfl (lv_at hl 1 rfl) ?_
    obtain ⟨i1, i2⟩ := mt_so2 hf
    subst i1
    subst i2
    exact mt_iret hx hb hr hI hH hS hlocks dX8_bestSwap_106
  · have hf := mt_ifF c10 hf
    refine lv_iload_n hx hb dX8_bestSwap_26 rfl (lv_at hl 3 rfl) ?_
    refine lv_iconst (v := 1) hx hb dX8_bestSwap_27 (by decide) ?_
    refine lv_iadd hx hb dX8_bestSwap_28 ?_
    refine mt_lti hf (fun x11 ex11 hf => ?_)
    refine lv_istore (lv' := [(4, .int x11), (0, .ref (E.2.1 133)), (1, .int x4), (2, .int x5), (3, .int x6)]) hx hb dX8_bestSwap_29 hl (by decide) rfl (fun ls hl => ?_)
    refine mt_lpI4 hf (fun (x12 : Int32) (x13 : Int32) (x14 : Int32) (M15 : mt_M) => ∀ (H : Heap) (locs : List Loc) (ls : Array Slot), mt_H E M15 u H → va_S (mt_A E) s.heap H locs → lv_has ls 5 [(0, .ref (E.2.1 133)), (1, .int x12), (2, .int x13), (3, .int x6), (4, .int x14)] → W p l e (headSpec wsX8_bestSwap ({ frames := 5, cells := 0, slots := 0, locals := 111 } : Room)).room s mid (([.ref (E.2.1 133)] : List Value).toArray) below meth c0 H locs 0 0 (MQ below (mt_Qi E r M' u) (([.ref (E.2.1 133)] : List Value).toArray) s 0 0 (mt_A E)) (F0 mid 31 ls [])) ?_ _ _ _ hH hS (lv_sub hl [1, 2, 3, 4, 0] rfl)
    intro k16 ih17 x12 x13 x14 M15 hf H locs ls hH hS hl
    refine lv_iload hx hb dX8_bestSwap_31 (lv_at hl 4 rfl) ?_
    refine lv_aload_n hx hb dX8_bestSwap_33 rfl (lv_at hl 0 rfl) ?_
    refine mt_getr (C := RX8) (T := TX8) (N := 5) hx hb hts hinX8 hown hI hH mt_T133 rfl 0 (by decide) kw0 rfl rfl dX8_bestSwap_34 ?_
    refine mt_getrN (C := RX4) (T := TX4) (N := 6) hx hb hts hinX4 hown hI hH mt_T10 rfl 0 (by decide) (List.mem_of_getElem? (i := 9) rfl) rfl rfl dX8_bestSwap_37 ?_
    refine mt_getiN (C := RX0) (T := TX0) (N := 12) hx hb hts hinX0 hown hI hH mt_T13 rfl 8 (by decide) (List.mem_of_getElem? (i := 1) rfl) rfl rfl dX8_bestSwap_40 ?_
    refine lv_icmp_ge (tgt := 99) hx hb dX8_bestSwap_43 (by decide) (fun c18 => ?_) (fun c18 => ?_)
    · have hf := mt_ifT c18 hf
      refine mt_ltI hf (fun x19 ex19 hf => ?_)
      refine lv_iinc (v := x19) (lv' := [(3, .int x19), (0, .ref (E.2.1 133)), (1, .int x12), (2, .int x13), (4, .int x14)]) hx hb dX8_bestSwap_99 hl (k := 3) rfl (by rw [ex19]; rfl) (by decide) rfl (fun ls hl => ?_)
      refine lv_goto (tgt := 12) hx hb dX8_bestSwap_102 (by decide) ?_
      exact ih9 x12 x13 x19 M15 hf _ _ _ hH hS (lv_sub hl [1, 2, 3, 0] rfl)
    · have hf := mt_ifF c18 hf
      refine lv_aload_n hx hb dX8_bestSwap_46 rfl (lv_at hl 0 rfl) ?_
      refine mt_b1I hf (fun M21 hg20 hf => ?_)
      refine mt_gov (mt_runV (i := 133) (As := []) (rest := []) ⟨hx, hb, hml, hown, hts⟩ hI hH (c_X8_begin l E M15 u _ hg20) (cwV 0 hts gX8_bestSwap_X8_begin rfl rfl rfl (by decide +kernel) ⟨Nat.le_of_ble_eq_true rfl, Nat.le_of_ble_eq_true rfl⟩) mt_T133 rfl rfl hl.1 rfl (Nat.le_of_ble_eq_true rfl) dX8_bestSwap_47 ⟨Nat.zero_le _, Nat.zero_le _⟩) hS (fun H locs hH hS => ?_)
      refine lv_aload_n hx hb dX8_bestSwap_50 rfl (lv_at hl 0 rfl) ?_
      refine mt_getr (C := RX8) (T := TX8) (N := 5) hx hb hts hinX8 hown hI hH mt_T133 rfl 1 (by decide) kw1 rfl rfl dX8_bestSwap_51 ?_
      refine lv_iload_n hx hb dX8_bestSwap_54 rfl (lv_at hl 3 rfl) ?_
      refine lv_iload hx hb dX8_bestSwap_55 (lv_at hl 4 rfl) ?_
      refine mt_b1I hf (fun M23 hg22 hf => ?_)
      refine mt_gov (mt_runV (i := 137) (As := [.int x6, .int x14]) (rest := []) ⟨hx, hb, hml, hown, hts⟩ hI hH (c_X0_changeUses l E 137 (by decide) x6 x14 M21 u _ hg22) (cwV 2 hts gX8_bestSwap_X0_changeUses rfl rfl rfl (by decide +kernel) ⟨Nat.le_of_ble_eq_true rfl, Nat.le_of_ble_eq_true rfl⟩) mt_T137 rfl rfl hl.1 rfl (Nat.le_of_ble_eq_true rfl) dX8_bestSwap_57 ⟨Nat.zero_le _, Nat.zero_le _⟩) hS (fun H locs hH hS => ?_)
      refine lv_aload_n hx hb dX8_bestSwap_60 rfl (lv_at hl 0 rfl) ?_
      refine lv_bipush (v := 7) hx hb dX8_bestSwap_61 (by decide) ?_
      refine mt_b1I hf (fun M25 hg24 hf => ?_)
      refine mt_gov (mt_runV (i := 133) (As := [.int (7 : Int32)]) (rest := []) ⟨hx, hb, hml, hown, hts⟩ hI hH (c_X8_liveDays l E (7 : Int32) M23 u _ hg24) (cwV 1 hts gX8_bestSwap_X8_liveDays rfl rfl rfl (by decide +kernel) ⟨Nat.le_of_ble_eq_true rfl, Nat.le_of_ble_eq_true rfl⟩) mt_T133 rfl rfl hl.1 rfl (Nat.le_of_ble_eq_true rfl) dX8_bestSwap_63 ⟨Nat.zero_le _, Nat.zero_le _⟩) hS (fun H locs hH hS => ?_)
      refine lv_aload_n hx hb dX8_bestSwap_66 rfl (lv_at hl 0 rfl) ?_
      refine mt_getr (C := RX8) (T := TX8) (N := 5) hx hb hts hinX8 hown hI hH mt_T133 rfl 1 (by decide) kw1 rfl rfl dX8_bestSwap_67 ?_
      refine mt_getiN (C := RX0) (T := TX0) (N := 12) hx hb hts hinX0 hown hI hH mt_T137 rfl 10 (by decide) (List.mem_of_getElem? (i := 5) rfl) rfl rfl dX8_bestSwap_70 ?_
      refine lv_iload_n hx hb dX8_bestSwap_73 rfl (lv_at hl 2 rfl) ?_
      refine mt_jn2 hf (fun (x26 : Int32) (x27 : Int32) => ∀ (H : Heap) (locs : List Loc) (ls : Array Slot), mt_H E M25 u H → va_S (mt_A E) s.heap H locs → lv_has ls 5 [(0, .ref (E.2.1 133)), (1, .int x26), (2, .int x27), (3, .int x6), (4, .int x14)] → W p l e (headSpec wsX8_bestSwap ({ frames := 5, cells := 0, slots := 0, locals := 111 } : Room)).room s mid (([.ref (E.2.1 133)] : List Value).toArray) below meth c0 H locs 0 0 (MQ below (mt_Qi E r M' u) (([.ref (E.2.1 133)] : List Value).toArray) s 0 0 (mt_A E)) (F0 mid 93 ls [])) ?_ ?_
      · intro x26 x27 hf H locs ls hH hS hl
        refine mt_ltI hf (fun x30 ex30 hf => ?_)
        refine lv_iinc (v := x30) (lv' := [(4, .int x30), (0, .ref (E.2.1 133)), (1, .int x26), (2, .int x27), (3, .int x6)]) hx hb dX8_bestSwap_93 hl (k := 4) rfl (by rw [ex30]; rfl) (by decide) rfl (fun ls hl => ?_)
        refine lv_goto (tgt := 31) hx hb dX8_bestSwap_96 (by decide) ?_
        exact ih17 x26 x27 x30 M25 hf _ _ _ hH hS (lv_sub hl [1, 2, 3, 4, 0] rfl)
      · intro j28 hj29 hf
        refine lv_icmp_ge (tgt := 93) hx hb dX8_bestSwap_74 (by decide) (fun c31 => ?_) (fun c31 => ?_)
        · have hf := mt_ifT c31 hf
          exact hj29 x12 x13 hf _ _ _ hH hS (lv_sub hl [0, 1, 2, 3, 4] rfl)
        · have hf := mt_ifF c31 hf
          refine lv_aload_n hx hb dX8_bestSwap_77 rfl (lv_at hl 0 rfl) ?_
          refine mt_getr (C := RX8) (T := TX8) (N := 5) hx hb hts hinX8 hown hI hH mt_T133 rfl 1 (by decide) kw1 rfl rfl dX8_bestSwap_78 ?_
          refine mt_getiN (C := RX0) (T := TX0) (N := 12) hx hb hts hinX0 hown hI hH mt_T137 rfl 10 (by decide) (List.mem_of_getElem? (i := 5) rfl) rfl rfl dX8_bestSwap_81 ?_
          refine mt_lti hf (fun x32 ex32 hf => ?_)
          refine lv_istore_n (lv' := [(2, .int x32), (0, .ref (E.2.1 133)), (1, .int x12), (3, .int x6), (4, .int x14)]) hx hb dX8_bestSwap_84 rfl hl (by decide) rfl (fun ls hl => ?_)
          refine lv_bipush (v := 10) hx hb dX8_bestSwap_85 (by decide) ?_
          refine lv_iload_n hx hb dX8_bestSwap_87 rfl (lv_at hl 3 rfl) ?_
          refine lv_imul hx hb dX8_bestSwap_88 ?_
          refine lv_iload hx hb dX8_bestSwap_89 (lv_at hl 4 rfl) ?_
          refine lv_iadd hx hb dX8_bestSwap_91 ?_
          refine mt_lti hf (fun x33 ex33 hf => ?_)
          refine lv_istore_n (lv' := [(1, .int x33), (2, .int x32), (0, .ref (E.2.1 133)), (3, .int x6), (4, .int x14)]) hx hb dX8_bestSwap_92 rfl hl (by decide) rfl (fun ls hl => ?_)
          exact hj29 x33 x32 hf _ _ _ hH hS (lv_sub hl [2, 0, 1, 3, 4] rfl)
set_option maxHeartbeats 4000000 in
set_option maxRecDepth 100000 in
theorem c_X8_drawBelowTwo (l : Launch) (E : mt_E) (a0 : Int32) (M : mt_M) (u : mt_U) (r : Int32) (hf : f_X8_drawBelowTwo a0 = some (r)) : Met l yX8_drawBelowTwo wsX8_drawBelowTwo ({ frames := 0, cells := 0, slots := 0, locals := 0 } : Room) (mt_P E [.int a0] M u) (mt_Qi E r M u) 0 0 (mt_A E) := by
  refine Met.ofW (cc := cX8_drawBelowTwo) (maxL := 1) (ret := (some .int)) (by decide) rfl ?_
  intro p e s mid args below meth c0 s₁ B hml hv
  obtain ⟨rfl, hI, hH⟩ := hv
  have hx := B.exec
  have hb := B.bytes
  have hr := B.returns
  have hts := atoms_spec (ws := wsX8_drawBelowTwo) B.pre
  have hown : s.vm.findClass RX8 = some mid.cls := findClass_of_methodNamed B.named
  have hlocks := B.notSynchronized
  have hS : va_S (mt_A E) s.heap s.heap [] := va_S.rf
  have hl := lv_entry ([.int a0]) (n := 1) (Nat.le_of_ble_eq_true rfl)
  rw [lg_entry_eq]
  generalize (lg_sl ([.int a0]) ++ List.replicate (1 - (lg_sl ([.int a0])).length) Slot.unset).toArray = ls at hl ⊢
  have hl : lv_has ls 1 [(0, .int a0)] := hl
  unfold f_X8_drawBelowTwo at hf
  have kw0 := hts (.constant RX8 151 (2147483647)) (List.mem_of_getElem? (i := 1) rfl)
  have kw1 := hts (.constant RX8 152 (65536)) (List.mem_of_getElem? (i := 2) rfl)
  refine lv_iload_n hx hb dX8_drawBelowTwo_0 rfl (lv_at hl 0 rfl) ?_
  refine lv_ldc hx hb hown kw0 dX8_drawBelowTwo_1 ?_
  refine lv_iand hx hb dX8_drawBelowTwo_3 ?_
  refine lv_ldc hx hb hown kw1 dX8_drawBelowTwo_4 ?_
  refine lv_idiv hx hb dX8_drawBelowTwo_6 (by decide) ?_
  refine lv_iconst (v := 2) hx hb dX8_drawBelowTwo_7 (by decide) ?_
  refine lv_irem hx hb dX8_drawBelowTwo_8 (by decide) ?_
  have i1 := mt_so1 hf
  subst i1
  exact mt_iret hx hb hr hI hH hS hlocks dX8_drawBelowTwo_9
set_option maxHeartbeats 4000000 in
set_option maxRecDepth 100000 in
theorem c_X8_weeksByLot (l : Launch) (E : mt_E) (a1 : Int32) (a2 : Int32) (a3 : Int32) (M : mt_M) (u : mt_U) (r : Int32) (M' : mt_M) (hf : f_X8_weeksByLot a1 a2 a3 M = some (r, M')) : Met l yX8_weeksByLot wsX8_weeksByLot ({ frames := 3, cells := 0, slots := 0, locals := 68 } : Room) (mt_P E [.ref (E.2.1 133), .int a1, .int a2, .int a3] M u) (mt_Qi E r M' u) 0 0 (mt_A E) := by
  refine Met.ofW (cc := cX8_weeksByLot) (maxL := 10) (ret := (some .int)) (by decide) rfl ?_
  intro p e s mid args below meth c0 s₁ B hml hv
  obtain ⟨rfl, hI, hH⟩ := hv
  have hx := B.exec
  have hb := B.bytes
  have hr := B.returns
  have hts := atoms_spec (ws := wsX8_weeksByLot) B.pre
  have hown : s.vm.findClass RX8 = some mid.cls := findClass_of_methodNamed B.named
  have hlocks := B.notSynchronized
  have hS : va_S (mt_A E) s.heap s.heap [] := va_S.rf
  have hl := lv_entry ([.ref (E.2.1 133), .int a1, .int a2, .int a3]) (n := 10) (Nat.le_of_ble_eq_true rfl)
  rw [lg_entry_eq]
  generalize (lg_sl ([.ref (E.2.1 133), .int a1, .int a2, .int a3]) ++ List.replicate (10 - (lg_sl ([.ref (E.2.1 133), .int a1, .int a2, .int a3])).length) Slot.unset).toArray = ls at hl ⊢
  have hl : lv_has ls 10 [(0, .ref (E.2.1 133)), (1, .int a1), (2, .int a2), (3, .int a3)] := hl
  unfold f_X8_weeksByLot at hf
  have kw0 := hts (.fieldLink RX8 30 "MilkTwice$Mind" "shelf" "LMilkTwice$Cupboard;") (List.mem_of_getElem? (i := 1) rfl)
  have kw1 := hts (.constant RX8 147 (1103515245)) (List.mem_of_getElem? (i := 2) rfl)
  have hinX8 : ∀ w ∈ u_ws RX8 TX8 5, w ∈ wsX8_weeksByLot := fun w h => List.mem_cons_of_mem _ (List.mem_append_left _ (List.mem_append_left _ (List.mem_append_right _ h)))
  have hinX0 : ∀ w ∈ u_ws RX0 TX0 12, w ∈ wsX8_weeksByLot := fun w h => List.mem_cons_of_mem _ (List.mem_append_left _ (List.mem_append_right _ h))
  refine lv_iload_n hx hb dX8_weeksByLot_0 rfl (lv_at hl 2 rfl) ?_
  refine lv_istore (lv' := [(4, .int a2), (0, .ref (E.2.1 133)), (1, .int a1), (2, .int a2), (3, .int a3)]) hx hb dX8_weeksByLot_1 hl (by decide) rfl (fun ls hl => ?_)
  refine lv_iconst (v := 0) hx hb dX8_weeksByLot_3 (by decide) ?_
  refine lv_istore (lv' := [(5, .int (0 : Int32)), (4, .int a2), (0, .ref (E.2.1 133)), (1, .int a1), (2, .int a2), (3, .int a3)]) hx hb dX8_weeksByLot_4 hl (by decide) rfl (fun ls hl => ?_)
  refine lv_iconst (v := 0) hx hb dX8_weeksByLot_6 (by decide) ?_
  refine lv_istore (lv' := [(6, .int (0 : Int32)), (5, .int (0 : Int32)), (4, .int a2), (0, .ref (E.2.1 133)), (1, .int a1), (2, .int a2), (3, .int a3)]) hx hb dX8_weeksByLot_7 hl (by decide) rfl (fun ls hl => ?_)
  refine lv_iconst (v := 0) hx hb dX8_weeksByLot_9 (by decide) ?_
  refine lv_istore (lv' := [(7, .int (0 : Int32)), (6, .int (0 : Int32)), (5, .int (0 : Int32)), (4, .int a2), (0, .ref (E.2.1 133)), (1, .int a1), (2, .int a2), (3, .int a3)]) hx hb dX8_weeksByLot_10 hl (by decide) rfl (fun ls hl => ?_)
  refine mt_lpI5 hf (fun (x1 : Int32) (x2 : Int32) (x3 : Int32) (x4 : Int32) (M5 : mt_M) => ∀ (H : Heap) (locs : List Loc) (ls : Array Slot), mt_H E M5 u H → va_S (mt_A E) s.heap H locs → lv_has ls 10 [(0, .ref (E.2.1 133)), (1, .int a1), (3, .int a3), (4, .int x1), (5, .int x2), (6, .int x3), (7, .int x4)] → W p l e (headSpec wsX8_weeksByLot ({ frames := 3, cells := 0, slots := 0, locals := 68 } : Room)).room s mid (([.ref (E.2.1 133), .int a1, .int a2, .int a3] : List Value).toArray) below meth c0 H locs 0 0 (MQ below (mt_Qi E r M' u) (([.ref (E.2.1 133), .int a1, .int a2, .int a3] : List Value).toArray) s 0 0 (mt_A E)) (F0 mid 12 ls [])) ?_ _ _ _ hH hS (lv_sub hl [4, 5, 7, 3, 2, 1, 0] rfl)
  intro k6 ih7 x1 x2 x3 x4 M5 hf H locs ls hH hS hl
  refine lv_iload hx hb dX8_weeksByLot_12 (lv_at hl 6 rfl) ?_
  refine lv_iload_n hx hb dX8_weeksByLot_14 rfl (lv_at hl 1 rfl) ?_
  refine lv_icmp_ge (tgt := 122) hx hb dX8_weeksByLot_15 (by decide) (fun c8 => ?_) (fun c8 => ?_)
  · have hf := mt_ifT c8 hf
    refine lv_iload_n hx hb dX8_weeksByLot_122 rfl (lv_at hl 2 rfl) ?_
    refine lv_if_ne (tgt := 131) hx hb dX8_weeksByLot_123 (by decide) (fun c9 => ?_) (fun c9 => ?_)
    · have hf := mt_ifF c9 hf
      refine lv_iload hx hb dX8_weeksByLot_131 (lv_at hl 5 rfl) ?_
      obtain ⟨i1, i2⟩ := mt_so2 hf
      subst i1
      subst i2
      exact mt_iret hx hb hr hI hH hS hlocks dX8_weeksByLot_133
    · have hf := mt_ifT c9 hf
      refine lv_iload hx hb dX8_weeksByLot_126 (lv_at hl 4 rfl) ?_
      refine lv_goto (tgt := 133) hx hb dX8_weeksByLot_128 (by decide) ?_
      obtain ⟨i1, i2⟩ := mt_so2 hf
      subst i1
      subst i2
      exact mt_iret hx hb hr hI hH hS hlocks dX8_weeksByLot_133
  · have hf := mt_ifF c8 hf
    refine lv_aload_n hx hb dX8_weeksByLot_18 rfl (lv_at hl 0 rfl) ?_
    refine mt_b1I hf (fun M11 hg10 hf => ?_)
    refine mt_gov (mt_runV (i := 133) (As := []) (rest := []) ⟨hx, hb, hml, hown, hts⟩ hI hH (c_X8_begin l E M5 u _ hg10) (cwV 0 hts gX8_weeksByLot_X8_begin rfl rfl rfl (by decide +kernel) ⟨Nat.le_of_ble_eq_true rfl, Nat.le_of_ble_eq_true rfl⟩) mt_T133 rfl rfl hl.1 rfl (Nat.le_of_ble_eq_true rfl) dX8_weeksByLot_19 ⟨Nat.zero_le _, Nat.zero_le _⟩) hS (fun H locs hH hS => ?_)
    refine lv_iconst (v := 0) hx hb dX8_weeksByLot_22 (by decide) ?_
    refine lv_istore (lv' := [(8, .int (0 : Int32)), (0, .ref (E.2.1 133)), (1, .int a1), (3, .int a3), (4, .int x1), (5, .int x2), (6, .int x3), (7, .int x4)]) hx hb dX8_weeksByLot_23 hl (by decide) rfl (fun ls hl => ?_)
    refine mt_lpI3 hf (fun (x12 : Int32) (x13 : Int32) (M14 : mt_M) => ∀ (H : Heap) (locs : List Loc) (ls : Array Slot), mt_H E M14 u H → va_S (mt_A E) s.heap H locs → lv_has ls 10 [(0, .ref (E.2.1 133)), (1, .int a1), (3, .int a3), (4, .int x12), (5, .int x2), (6, .int x3), (7, .int x4), (8, .int x13)] → W p l e (headSpec wsX8_weeksByLot ({ frames := 3, cells := 0, slots := 0, locals := 68 } : Room)).room s mid (([.ref (E.2.1 133), .int a1, .int a2, .int a3] : List Value).toArray) below meth c0 H locs 0 0 (MQ below (mt_Qi E r M' u) (([.ref (E.2.1 133), .int a1, .int a2, .int a3] : List Value).toArray) s 0 0 (mt_A E)) (F0 mid 25 ls [])) ?_ _ _ _ hH hS (lv_sub hl [1, 2, 3, 4, 5, 6, 7, 0] rfl)
    intro k15 ih16 x12 x13 M14 hf H locs ls hH hS hl
    refine lv_iload hx hb dX8_weeksByLot_25 (lv_at hl 7 rfl) ?_
    refine lv_bipush (v := 7) hx hb dX8_weeksByLot_27 (by decide) ?_
    refine lv_icmp_ge (tgt := 92) hx hb dX8_weeksByLot_29 (by decide) (fun c17 => ?_) (fun c17 => ?_)
    · have hf := mt_ifT c17 hf
      refine lv_iload hx hb dX8_weeksByLot_92 (lv_at hl 4 rfl) ?_
      refine lv_aload_n hx hb dX8_weeksByLot_94 rfl (lv_at hl 0 rfl) ?_
      refine mt_getr (C := RX8) (T := TX8) (N := 5) hx hb hts hinX8 hown hI hH mt_T133 rfl 1 (by decide) kw0 rfl rfl dX8_weeksByLot_95 ?_
      refine mt_getiN (C := RX0) (T := TX0) (N := 12) hx hb hts hinX0 hown hI hH mt_T137 rfl 10 (by decide) (List.mem_of_getElem? (i := 5) rfl) rfl rfl dX8_weeksByLot_98 ?_
      refine lv_iadd hx hb dX8_weeksByLot_101 ?_
      refine mt_lti hf (fun x18 ex18 hf => ?_)
      refine lv_istore (lv' := [(5, .int x18), (0, .ref (E.2.1 133)), (1, .int a1), (3, .int a3), (4, .int x12), (6, .int x3), (7, .int x4), (8, .int x13)]) hx hb dX8_weeksByLot_102 hl (by decide) rfl (fun ls hl => ?_)
      refine lv_iload hx hb dX8_weeksByLot_104 (lv_at hl 5 rfl) ?_
      refine lv_aload_n hx hb dX8_weeksByLot_106 rfl (lv_at hl 1 rfl) ?_
      refine mt_getr (C := RX8) (T := TX8) (N := 5) hx hb hts hinX8 hown hI hH mt_T133 rfl 1 (by decide) kw0 rfl rfl dX8_weeksByLot_107 ?_
      refine mt_getiN (C := RX0) (T := TX0) (N := 12) hx hb hts hinX0 hown hI hH mt_T137 rfl 9 (by decide) (List.mem_of_getElem? (i := 4) rfl) rfl rfl dX8_weeksByLot_110 ?_
      refine lv_iadd hx hb dX8_weeksByLot_113 ?_
      refine mt_lti hf (fun x19 ex19 hf => ?_)
      refine lv_istore (lv' := [(6, .int x19), (5, .int x18), (0, .ref (E.2.1 133)), (1, .int a1), (3, .int a3), (4, .int x12), (7, .int x4), (8, .int x13)]) hx hb dX8_weeksByLot_114 hl (by decide) rfl (fun ls hl => ?_)
      refine mt_ltI hf (fun x20 ex20 hf => ?_)
      refine lv_iinc (v := x20) (lv' := [(7, .int x20), (6, .int x19), (5, .int x18), (0, .ref (E.2.1 133)), (1, .int a1), (3, .int a3), (4, .int x12), (8, .int x13)]) hx hb dX8_weeksByLot_116 hl (k := 6) rfl (by rw [ex20]; rfl) (by decide) rfl (fun ls hl => ?_)
      refine lv_goto (tgt := 12) hx hb dX8_weeksByLot_119 (by decide) ?_
      exact ih7 x12 x18 x19 x20 M14 hf _ _ _ hH hS (lv_sub hl [3, 4, 5, 6, 2, 1, 0] rfl)
    · have hf := mt_ifF c17 hf
      refine lv_iconst (v := 0) hx hb dX8_weeksByLot_32 (by decide) ?_
      refine lv_istore (lv' := [(9, .int (0 : Int32)), (0, .ref (E.2.1 133)), (1, .int a1), (3, .int a3), (4, .int x12), (5, .int x2), (6, .int x3), (7, .int x4), (8, .int x13)]) hx hb dX8_weeksByLot_33 hl (by decide) rfl (fun ls hl => ?_)
      refine mt_lpI3 hf (fun (x21 : Int32) (x22 : Int32) (M23 : mt_M) => ∀ (H : Heap) (locs : List Loc) (ls : Array Slot), mt_H E M23 u H → va_S (mt_A E) s.heap H locs → lv_has ls 10 [(0, .ref (E.2.1 133)), (1, .int a1), (3, .int a3), (4, .int x21), (5, .int x2), (6, .int x3), (7, .int x4), (8, .int x13), (9, .int x22)] → W p l e (headSpec wsX8_weeksByLot ({ frames := 3, cells := 0, slots := 0, locals := 68 } : Room)).room s mid (([.ref (E.2.1 133), .int a1, .int a2, .int a3] : List Value).toArray) below meth c0 H locs 0 0 (MQ below (mt_Qi E r M' u) (([.ref (E.2.1 133), .int a1, .int a2, .int a3] : List Value).toArray) s 0 0 (mt_A E)) (F0 mid 35 ls [])) ?_ _ _ _ hH hS (lv_sub hl [1, 2, 3, 4, 5, 6, 7, 8, 0] rfl)
      intro k24 ih25 x21 x22 M23 hf H locs ls hH hS hl
      refine lv_iload hx hb dX8_weeksByLot_35 (lv_at hl 8 rfl) ?_
      refine lv_aload_n hx hb dX8_weeksByLot_37 rfl (lv_at hl 0 rfl) ?_
      refine mt_getr (C := RX8) (T := TX8) (N := 5) hx hb hts hinX8 hown hI hH mt_T133 rfl 1 (by decide) kw0 rfl rfl dX8_weeksByLot_38 ?_
      refine mt_getiN (C := RX0) (T := TX0) (N := 12) hx hb hts hinX0 hown hI hH mt_T137 rfl 8 (by decide) (List.mem_of_getElem? (i := 1) rfl) rfl rfl dX8_weeksByLot_41 ?_
      refine lv_icmp_ge (tgt := 78) hx hb dX8_weeksByLot_44 (by decide) (fun c26 => ?_) (fun c26 => ?_)
      · have hf := mt_ifT c26 hf
        refine lv_aload_n hx hb dX8_weeksByLot_78 rfl (lv_at hl 0 rfl) ?_
        refine mt_getr (C := RX8) (T := TX8) (N := 5) hx hb hts hinX8 hown hI hH mt_T133 rfl 1 (by decide) kw0 rfl rfl dX8_weeksByLot_79 ?_
        refine mt_b2I hf (fun r28 M29 hg27 hf => ?_)
        refine mt_goi (mt_runV (i := 137) (As := []) (rest := []) ⟨hx, hb, hml, hown, hts⟩ hI hH (c_X0_liveDay l E 137 (by decide) M23 u _ _ hg27) (cwV 0 hts gX8_weeksByLot_X0_liveDay rfl rfl rfl (by decide +kernel) ⟨Nat.le_of_ble_eq_true rfl, Nat.le_of_ble_eq_true rfl⟩) mt_T137 rfl rfl hl.1 rfl (Nat.le_of_ble_eq_true rfl) dX8_weeksByLot_82 ⟨Nat.zero_le _, Nat.zero_le _⟩) hS (fun H locs hH hS => ?_)
        refine lv_pop hx hb dX8_weeksByLot_85 rfl ?_
        refine mt_ltI hf (fun x30 ex30 hf => ?_)
        refine lv_iinc (v := x30) (lv' := [(8, .int x30), (0, .ref (E.2.1 133)), (1, .int a1), (3, .int a3), (4, .int x21), (5, .int x2), (6, .int x3), (7, .int x4), (9, .int x22)]) hx hb dX8_weeksByLot_86 hl (k := 7) rfl (by rw [ex30]; rfl) (by decide) rfl (fun ls hl => ?_)
        refine lv_goto (tgt := 25) hx hb dX8_weeksByLot_89 (by decide) ?_
        exact ih16 x21 x30 M29 hf _ _ _ hH hS (lv_sub hl [1, 2, 3, 4, 5, 6, 7, 0] rfl)
      · have hf := mt_ifF c26 hf
        refine lv_iload hx hb dX8_weeksByLot_47 (lv_at hl 3 rfl) ?_
        refine lv_ldc hx hb hown kw1 dX8_weeksByLot_49 ?_
        refine lv_imul hx hb dX8_weeksByLot_51 ?_
        refine lv_sipush (v := 12345) hx hb dX8_weeksByLot_52 (by decide) ?_
        refine lv_iadd hx hb dX8_weeksByLot_55 ?_
        refine mt_lti hf (fun x31 ex31 hf => ?_)
        refine lv_istore (lv' := [(4, .int x31), (0, .ref (E.2.1 133)), (1, .int a1), (3, .int a3), (5, .int x2), (6, .int x3), (7, .int x4), (8, .int x13), (9, .int x22)]) hx hb dX8_weeksByLot_56 hl (by decide) rfl (fun ls hl => ?_)
        refine lv_aload_n hx hb dX8_weeksByLot_58 rfl (lv_at hl 1 rfl) ?_
        refine mt_getr (C := RX8) (T := TX8) (N := 5) hx hb hts hinX8 hown hI hH mt_T133 rfl 1 (by decide) kw0 rfl rfl dX8_weeksByLot_59 ?_
        refine lv_iload hx hb dX8_weeksByLot_62 (lv_at hl 8 rfl) ?_
        refine lv_iload hx hb dX8_weeksByLot_64 (lv_at hl 0 rfl) ?_
        refine mt_b1I hf (fun r33 hg32 hf => ?_)
        refine mt_goi (mt_runS (As := [.int x31]) (rest := [.int x22, .ref (E.2.1 137)]) ⟨hx, hb, hml, hown, hts⟩ hI hH (c_X8_drawBelowTwo l E x31 M23 u _ hg32) (va_cwS 1 hts gX8_weeksByLot_X8_drawBelowTwo rfl rfl rfl (by decide +kernel) ⟨Nat.le_of_ble_eq_true rfl, Nat.le_of_ble_eq_true rfl⟩) rfl hl.1 rfl (Nat.le_of_ble_eq_true rfl) dX8_weeksByLot_66 ⟨Nat.zero_le _, Nat.zero_le _⟩) hS (fun H locs hH hS => ?_)
        refine mt_b1I hf (fun M35 hg34 hf => ?_)
        refine mt_gov (mt_runV (i := 137) (As := [.int x22, .int r33]) (rest := []) ⟨hx, hb, hml, hown, hts⟩ hI hH (c_X0_buy l E 137 (by decide) x22 r33 M23 u _ hg34) (cwV 2 hts gX8_weeksByLot_X0_buy rfl rfl rfl (by decide +kernel) ⟨Nat.le_of_ble_eq_true rfl, Nat.le_of_ble_eq_true rfl⟩) mt_T137 rfl rfl hl.1 rfl (Nat.le_of_ble_eq_true rfl) dX8_weeksByLot_69 ⟨Nat.zero_le _, Nat.zero_le _⟩) hS (fun H locs hH hS => ?_)
        refine mt_ltI hf (fun x36 ex36 hf => ?_)
        refine lv_iinc (v := x36) (lv' := [(9, .int x36), (4, .int x31), (0, .ref (E.2.1 133)), (1, .int a1), (3, .int a3), (5, .int x2), (6, .int x3), (7, .int x4), (8, .int x13)]) hx hb dX8_weeksByLot_72 hl (k := 8) rfl (by rw [ex36]; rfl) (by decide) rfl (fun ls hl => ?_)
        refine lv_goto (tgt := 35) hx hb dX8_weeksByLot_75 (by decide) ?_
        exact ih25 x31 x36 M35 hf _ _ _ hH hS (lv_sub hl [2, 3, 4, 1, 5, 6, 7, 8, 0] rfl)
set_option maxHeartbeats 4000000 in
set_option maxRecDepth 100000 in
theorem c_X11_refuse (l : Launch) (E : mt_E) (a1 : Int32) (M : mt_M) (u : mt_U) (r : Int32) (M' : mt_M) (hf : f_X11_refuse a1 M = some (r, M')) : Met l yX11_refuse wsX11_refuse ({ frames := 0, cells := 0, slots := 0, locals := 0 } : Room) (mt_P E [.ref (E.2.1 0), .int a1] M u) (mt_Qi E r M' u) 0 0 (mt_A E) := by
  refine Met.ofW (cc := cX11_refuse) (maxL := 3) (ret := (some .int)) (by decide) rfl ?_
  intro p e s mid args below meth c0 s₁ B hml hv
  obtain ⟨rfl, hI, hH⟩ := hv
  have hx := B.exec
  have hb := B.bytes
  have hr := B.returns
  have hts := atoms_spec (ws := wsX11_refuse) B.pre
  have hown : s.vm.findClass RX11 = some mid.cls := findClass_of_methodNamed B.named
  have hlocks := B.notSynchronized
  have hS : va_S (mt_A E) s.heap s.heap [] := va_S.rf
  have hl := lv_entry ([.ref (E.2.1 0), .int a1]) (n := 3) (Nat.le_of_ble_eq_true rfl)
  rw [lg_entry_eq]
  generalize (lg_sl ([.ref (E.2.1 0), .int a1]) ++ List.replicate (3 - (lg_sl ([.ref (E.2.1 0), .int a1])).length) Slot.unset).toArray = ls at hl ⊢
  have hl : lv_has ls 3 [(0, .ref (E.2.1 0)), (1, .int a1)] := hl
  unfold f_X11_refuse at hf
  have kw0 := hts (.fieldLink RX11 13 "MilkTwice" "refusals" "[I") (List.mem_of_getElem? (i := 1) rfl)
  have hinX11 : ∀ w ∈ u_ws RX11 TX11 10, w ∈ wsX11_refuse := fun w h => List.mem_cons_of_mem _ (List.mem_append_right _ h)
  refine lv_iload_n hx hb dX11_refuse_0 rfl (lv_at hl 1 rfl) ?_
  refine lv_ineg hx hb dX11_refuse_1 ?_
  refine mt_lti hf (fun x1 ex1 hf => ?_)
  refine lv_istore_n (lv' := [(2, .int x1), (0, .ref (E.2.1 0)), (1, .int a1)]) hx hb dX11_refuse_2 rfl hl (by decide) rfl (fun ls hl => ?_)
  refine lv_iload_n hx hb dX11_refuse_3 rfl (lv_at hl 0 rfl) ?_
  refine lv_if_le (tgt := 26) hx hb dX11_refuse_4 (by decide) (fun c2 => ?_) (fun c2 => ?_)
  · have hf := mt_ifT c2 hf
    refine lv_iload_n hx hb dX11_refuse_26 rfl (lv_at hl 2 rfl) ?_
    obtain ⟨i1, i2⟩ := mt_so2 hf
    subst i1
    subst i2
    exact mt_iret hx hb hr hI hH hS hlocks dX11_refuse_27
  · have hf := mt_ifF c2 hf
    refine lv_iload_n hx hb dX11_refuse_7 rfl (lv_at hl 0 rfl) ?_
    refine lv_aload_n hx hb dX11_refuse_8 rfl (lv_at hl 1 rfl) ?_
    refine mt_getr (C := RX11) (T := TX11) (N := 10) hx hb hts hinX11 hown hI hH mt_T0 rfl 9 (by decide) kw0 rfl rfl dX11_refuse_9 ?_
    refine mt_alen hx hb hI hH mt_T2 dX11_refuse_12 ?_
    refine lv_icmp_ge (tgt := 26) hx hb dX11_refuse_13 (by decide) (fun c3 => ?_) (fun c3 => ?_)
    · have hf := mt_ifT c3 hf
      refine lv_iload_n hx hb dX11_refuse_26 rfl (lv_at hl 2 rfl) ?_
      obtain ⟨i1, i2⟩ := mt_so2 hf
      subst i1
      subst i2
      exact mt_iret hx hb hr hI hH hS hlocks dX11_refuse_27
    · have hf := mt_ifF c3 hf
      refine lv_aload_n hx hb dX11_refuse_16 rfl (lv_at hl 1 rfl) ?_
      refine mt_getr (C := RX11) (T := TX11) (N := 10) hx hb hts hinX11 hown hI hH mt_T0 rfl 9 (by decide) kw0 rfl rfl dX11_refuse_17 ?_
      refine lv_iload_n hx hb dX11_refuse_20 rfl (lv_at hl 0 rfl) ?_
      refine lv_dup2_11 hx hb dX11_refuse_21 rfl rfl ?_
      refine mt_ciI hf (fun q4 hf => ?_)
      refine mt_iald hx hb hI hH mt_T2 q4 dX11_refuse_22 ?_
      refine lv_iconst (v := 1) hx hb dX11_refuse_23 (by decide) ?_
      refine lv_iadd hx hb dX11_refuse_24 ?_
      refine mt_ciI hf (fun q6 hf => ?_)
      refine mt_iast hx hb hI hH hS mt_T2 q6 dX11_refuse_25 (fun H locs hH hS => ?_)
      refine mt_ltI hf (fun M5 eM5 hf => ?_)
      rw [← eM5] at hH
      refine lv_iload_n hx hb dX11_refuse_26 rfl (lv_at hl 2 rfl) ?_
      obtain ⟨i1, i2⟩ := mt_so2 hf
      subst i1
      subst i2
      exact mt_iret hx hb hr hI hH hS hlocks dX11_refuse_27
set_option maxHeartbeats 4000000 in
set_option maxRecDepth 100000 in
theorem c_X11_refuseLong (l : Launch) (E : mt_E) (a1 : Int32) (M : mt_M) (u : mt_U) (r : Int64) (M' : mt_M) (hf : f_X11_refuseLong a1 M = some (r, M')) : Met l yX11_refuseLong wsX11_refuseLong ({ frames := 1, cells := 0, slots := 0, locals := 22 } : Room) (mt_P E [.ref (E.2.1 0), .int a1] M u) (mt_Ql E r M' u) 0 0 (mt_A E) := by
  refine Met.ofW (cc := cX11_refuseLong) (maxL := 2) (ret := (some .long)) (by decide) rfl ?_
  intro p e s mid args below meth c0 s₁ B hml hv
  obtain ⟨rfl, hI, hH⟩ := hv
  have hx := B.exec
  have hb := B.bytes
  have hr := B.returns
  have hts := atoms_spec (ws := wsX11_refuseLong) B.pre
  have hown : s.vm.findClass RX11 = some mid.cls := findClass_of_methodNamed B.named
  have hlocks := B.notSynchronized
  have hS : va_S (mt_A E) s.heap s.heap [] := va_S.rf
  have hl := lv_entry ([.ref (E.2.1 0), .int a1]) (n := 2) (Nat.le_of_ble_eq_true rfl)
  rw [lg_entry_eq]
  generalize (lg_sl ([.ref (E.2.1 0), .int a1]) ++ List.replicate (2 - (lg_sl ([.ref (E.2.1 0), .int a1])).length) Slot.unset).toArray = ls at hl ⊢
  have hl : lv_has ls 2 [(0, .ref (E.2.1 0)), (1, .int a1)] := hl
  unfold f_X11_refuseLong at hf
  have kw0 := hts (.constantLong RX11 72 (4000000000000000000)) (List.mem_of_getElem? (i := 1) rfl)
  refine lv_ldc2 hx hb hown kw0 dX11_refuseLong_0 ?_
  refine lv_aload_n hx hb dX11_refuseLong_3 rfl (lv_at hl 0 rfl) ?_
  refine lv_iload_n hx hb dX11_refuseLong_4 rfl (lv_at hl 1 rfl) ?_
  refine mt_b2I hf (fun r2 M3 hg1 hf => ?_)
  refine mt_goi (mt_runV (i := 0) (As := [.int a1]) (rest := [.long (4000000000000000000 : Int64)]) ⟨hx, hb, hml, hown, hts⟩ hI hH (c_X11_refuse l E a1 M u _ _ hg1) (cwV 1 hts gX11_refuseLong_X11_refuse rfl rfl rfl (by decide +kernel) ⟨Nat.le_of_ble_eq_true rfl, Nat.le_of_ble_eq_true rfl⟩) mt_T0 rfl rfl hl.1 rfl (Nat.le_of_ble_eq_true rfl) dX11_refuseLong_5 ⟨Nat.zero_le _, Nat.zero_le _⟩) hS (fun H locs hH hS => ?_)
  refine lv_i2l (v := ((r2).toInt64)) hx hb dX11_refuseLong_8 rfl ?_
  refine lv_lsub hx hb dX11_refuseLong_9 ?_
  obtain ⟨i1, i2⟩ := mt_so2 hf
  subst i1
  subst i2
  exact mt_lret hx hb hr hI hH hS hlocks dX11_refuseLong_10
set_option maxHeartbeats 4000000 in
set_option maxRecDepth 100000 in
theorem c_X11_refusalOf (l : Launch) (E : mt_E) (a1 : Int32) (a2 : Int32) (a3 : Int32) (a4 : Int32) (M : mt_M) (u : mt_U) (r : Int32) (hf : f_X11_refusalOf a1 a2 a3 a4 M = some (r)) : Met l yX11_refusalOf wsX11_refusalOf ({ frames := 1, cells := 0, slots := 0, locals := 22 } : Room) (mt_P E [.ref (E.2.1 0), .int a1, .int a2, .int a3, .int a4] M u) (mt_Qi E r M u) 0 0 (mt_A E) := by
  refine Met.ofW (cc := cX11_refusalOf) (maxL := 5) (ret := (some .int)) (by decide) rfl ?_
  intro p e s mid args below meth c0 s₁ B hml hv
  obtain ⟨rfl, hI, hH⟩ := hv
  have hx := B.exec
  have hb := B.bytes
  have hr := B.returns
  have hts := atoms_spec (ws := wsX11_refusalOf) B.pre
  have hown : s.vm.findClass RX11 = some mid.cls := findClass_of_methodNamed B.named
  have hlocks := B.notSynchronized
  have hS : va_S (mt_A E) s.heap s.heap [] := va_S.rf
  have hl := lv_entry ([.ref (E.2.1 0), .int a1, .int a2, .int a3, .int a4]) (n := 5) (Nat.le_of_ble_eq_true rfl)
  rw [lg_entry_eq]
  generalize (lg_sl ([.ref (E.2.1 0), .int a1, .int a2, .int a3, .int a4]) ++ List.replicate (5 - (lg_sl ([.ref (E.2.1 0), .int a1, .int a2, .int a3, .int a4])).length) Slot.unset).toArray = ls at hl ⊢
  have hl : lv_has ls 5 [(0, .ref (E.2.1 0)), (1, .int a1), (2, .int a2), (3, .int a3), (4, .int a4)] := hl
  unfold f_X11_refusalOf at hf
  have kw0 := hts (.fieldLink RX11 39 "MilkTwice" "house" "LMilkTwice$House;") (List.mem_of_getElem? (i := 1) rfl)
  have hinX11 : ∀ w ∈ u_ws RX11 TX11 10, w ∈ wsX11_refusalOf := fun w h => List.mem_cons_of_mem _ (List.mem_append_left _ (List.mem_append_left _ (List.mem_append_right _ h)))
  have hinX4 : ∀ w ∈ u_ws RX4 TX4 6, w ∈ wsX11_refusalOf := fun w h => List.mem_cons_of_mem _ (List.mem_append_left _ (List.mem_append_right _ h))
  refine lv_aload_n hx hb dX11_refusalOf_0 rfl (lv_at hl 0 rfl) ?_
  refine mt_getr (C := RX11) (T := TX11) (N := 10) hx hb hts hinX11 hown hI hH mt_T0 rfl 0 (by decide) kw0 rfl rfl dX11_refusalOf_1 ?_
  refine mt_getrN (C := RX4) (T := TX4) (N := 6) hx hb hts hinX4 hown hI hH mt_T10 rfl 0 (by decide) (List.mem_of_getElem? (i := 10) rfl) rfl rfl dX11_refusalOf_4 ?_
  refine lv_iload_n hx hb dX11_refusalOf_7 rfl (lv_at hl 1 rfl) ?_
  refine mt_b1I hf (fun r2 hg1 hf => ?_)
  refine mt_goi (mt_runV (i := 13) (As := [.int a1]) (rest := []) ⟨hx, hb, hml, hown, hts⟩ hI hH (c_X0_has l E 13 (by decide) a1 M u _ hg1) (cwV 1 hts gX11_refusalOf_X0_has rfl rfl rfl (by decide +kernel) ⟨Nat.le_of_ble_eq_true rfl, Nat.le_of_ble_eq_true rfl⟩) mt_T13 rfl rfl hl.1 rfl (Nat.le_of_ble_eq_true rfl) dX11_refusalOf_8 ⟨Nat.zero_le _, Nat.zero_le _⟩) hS (fun H locs hH hS => ?_)
  refine lv_if_eq (tgt := 24) hx hb dX11_refusalOf_11 (by decide) (fun c3 => ?_) (fun c3 => ?_)
  · have hf := mt_ifT c3 hf
    refine lv_iconst (v := (-1)) hx hb dX11_refusalOf_24 (by decide) ?_
    have i1 := mt_so1 hf
    subst i1
    exact mt_iret hx hb hr hI hH hS hlocks dX11_refusalOf_25
  · have hf := mt_ifF c3 hf
    refine lv_iload_n hx hb dX11_refusalOf_14 rfl (lv_at hl 2 rfl) ?_
    refine lv_iload_n hx hb dX11_refusalOf_15 rfl (lv_at hl 3 rfl) ?_
    refine lv_iload hx hb dX11_refusalOf_16 (lv_at hl 4 rfl) ?_
    refine mt_b1I hf (fun r5 hg4 hf => ?_)
    refine mt_goi (mt_runS (As := [.int a2, .int a3, .int a4]) (rest := []) ⟨hx, hb, hml, hown, hts⟩ hI hH (c_X11_outside l E a2 a3 a4 M u _ hg4) (va_cwS 3 hts gX11_refusalOf_X11_outside rfl rfl rfl (by decide +kernel) ⟨Nat.le_of_ble_eq_true rfl, Nat.le_of_ble_eq_true rfl⟩) rfl hl.1 rfl (Nat.le_of_ble_eq_true rfl) dX11_refusalOf_18 ⟨Nat.zero_le _, Nat.zero_le _⟩) hS (fun H locs hH hS => ?_)
    refine lv_goto (tgt := 25) hx hb dX11_refusalOf_21 (by decide) ?_
    have i1 := mt_so1 hf
    subst i1
    exact mt_iret hx hb hr hI hH hS hlocks dX11_refusalOf_25
set_option maxHeartbeats 4000000 in
set_option maxRecDepth 100000 in
theorem c_X11_firstOf (l : Launch) (E : mt_E) (a0 : Int32) (a1 : Int32) (a2 : Int32) (M : mt_M) (u : mt_U) (r : Int32) (hf : f_X11_firstOf a0 a1 a2 = some (r)) : Met l yX11_firstOf wsX11_firstOf ({ frames := 0, cells := 0, slots := 0, locals := 0 } : Room) (mt_P E [.int a0, .int a1, .int a2] M u) (mt_Qi E r M u) 0 0 (mt_A E) := by
  refine Met.ofW (cc := cX11_firstOf) (maxL := 3) (ret := (some .int)) (by decide) rfl ?_
  intro p e s mid args below meth c0 s₁ B hml hv
  obtain ⟨rfl, hI, hH⟩ := hv
  have hx := B.exec
  have hb := B.bytes
  have hr := B.returns
  have hts := atoms_spec (ws := wsX11_firstOf) B.pre
  have hown : s.vm.findClass RX11 = some mid.cls := findClass_of_methodNamed B.named
  have hlocks := B.notSynchronized
  have hS : va_S (mt_A E) s.heap s.heap [] := va_S.rf
  have hl := lv_entry ([.int a0, .int a1, .int a2]) (n := 3) (Nat.le_of_ble_eq_true rfl)
  rw [lg_entry_eq]
  generalize (lg_sl ([.int a0, .int a1, .int a2]) ++ List.replicate (3 - (lg_sl ([.int a0, .int a1, .int a2])).length) Slot.unset).toArray = ls at hl ⊢
  have hl : lv_has ls 3 [(0, .int a0), (1, .int a1), (2, .int a2)] := hl
  unfold f_X11_firstOf at hf
  refine lv_iload_n hx hb dX11_firstOf_0 rfl (lv_at hl 0 rfl) ?_
  refine lv_if_ne (tgt := 8) hx hb dX11_firstOf_1 (by decide) (fun c1 => ?_) (fun c1 => ?_)
  · have hf := mt_ifF c1 hf
    refine lv_iload_n hx hb dX11_firstOf_8 rfl (lv_at hl 0 rfl) ?_
    refine lv_goto (tgt := 13) hx hb dX11_firstOf_9 (by decide) ?_
    have i1 := mt_so1 hf
    subst i1
    exact mt_iret hx hb hr hI hH hS hlocks dX11_firstOf_13
  · have hf := mt_ifT c1 hf
    refine lv_iload_n hx hb dX11_firstOf_4 rfl (lv_at hl 1 rfl) ?_
    refine lv_if_eq (tgt := 12) hx hb dX11_firstOf_5 (by decide) (fun c2 => ?_) (fun c2 => ?_)
    · have hf := mt_ifT c2 hf
      refine lv_iload_n hx hb dX11_firstOf_12 rfl (lv_at hl 2 rfl) ?_
      have i1 := mt_so1 hf
      subst i1
      exact mt_iret hx hb hr hI hH hS hlocks dX11_firstOf_13
    · have hf := mt_ifF c2 hf
      refine lv_iload_n hx hb dX11_firstOf_8 rfl (lv_at hl 0 rfl) ?_
      refine lv_goto (tgt := 13) hx hb dX11_firstOf_9 (by decide) ?_
      have i1 := mt_so1 hf
      subst i1
      exact mt_iret hx hb hr hI hH hS hlocks dX11_firstOf_13
set_option maxHeartbeats 4000000 in
set_option maxRecDepth 100000 in
theorem c_X11_feed (l : Launch) (E : mt_E) (a1 : Int32) (M : mt_M) (u : mt_U) (r : Int32) (M' : mt_M) (hf : f_X11_feed a1 M = some (r, M')) : Met l yX11_feed wsX11_feed ({ frames := 2, cells := 0, slots := 0, locals := 41 } : Room) (mt_P E [.ref (E.2.1 0), .int a1] M u) (mt_Qi E r M' u) 0 0 (mt_A E) := by
  refine Met.ofW (cc := cX11_feed) (maxL := 3) (ret := (some .int)) (by decide) rfl ?_
  intro p e s mid args below meth c0 s₁ B hml hv
  obtain ⟨rfl, hI, hH⟩ := hv
  have hx := B.exec
  have hb := B.bytes
  have hr := B.returns
  have hts := atoms_spec (ws := wsX11_feed) B.pre
  have hown : s.vm.findClass RX11 = some mid.cls := findClass_of_methodNamed B.named
  have hlocks := B.notSynchronized
  have hS : va_S (mt_A E) s.heap s.heap [] := va_S.rf
  have hl := lv_entry ([.ref (E.2.1 0), .int a1]) (n := 3) (Nat.le_of_ble_eq_true rfl)
  rw [lg_entry_eq]
  generalize (lg_sl ([.ref (E.2.1 0), .int a1]) ++ List.replicate (3 - (lg_sl ([.ref (E.2.1 0), .int a1])).length) Slot.unset).toArray = ls at hl ⊢
  have hl : lv_has ls 3 [(0, .ref (E.2.1 0)), (1, .int a1)] := hl
  unfold f_X11_feed at hf
  have kw0 := hts (.fieldLink RX11 68 "MilkTwice" "letters" "LMilkTwice$Letters;") (List.mem_of_getElem? (i := 1) rfl)
  have hinX11 : ∀ w ∈ u_ws RX11 TX11 10, w ∈ wsX11_feed := fun w h => List.mem_cons_of_mem _ (List.mem_append_left _ (List.mem_append_right _ h))
  refine lv_iload_n hx hb dX11_feed_0 rfl (lv_at hl 1 rfl) ?_
  refine lv_iconst (v := 0) hx hb dX11_feed_1 (by decide) ?_
  refine lv_sipush (v := 255) hx hb dX11_feed_2 (by decide) ?_
  refine mt_b1I hf (fun r2 hg1 hf => ?_)
  refine mt_goi (mt_runS (As := [.int a1, .int (0 : Int32), .int (255 : Int32)]) (rest := []) ⟨hx, hb, hml, hown, hts⟩ hI hH (c_X11_outside l E a1 (0 : Int32) (255 : Int32) M u _ hg1) (va_cwS 3 hts gX11_feed_X11_outside rfl rfl rfl (by decide +kernel) ⟨Nat.le_of_ble_eq_true rfl, Nat.le_of_ble_eq_true rfl⟩) rfl hl.1 rfl (Nat.le_of_ble_eq_true rfl) dX11_feed_5 ⟨Nat.zero_le _, Nat.zero_le _⟩) hS (fun H locs hH hS => ?_)
  refine lv_aload_n hx hb dX11_feed_8 rfl (lv_at hl 0 rfl) ?_
  refine mt_getr (C := RX11) (T := TX11) (N := 10) hx hb hts hinX11 hown hI hH mt_T0 rfl 6 (by decide) kw0 rfl rfl dX11_feed_9 ?_
  refine mt_b1I hf (fun r4 hg3 hf => ?_)
  refine mt_goi (mt_runV (i := 145) (As := []) (rest := [.int r2]) ⟨hx, hb, hml, hown, hts⟩ hI hH (c_X7_isFull l E M u _ hg3) (cwV 0 hts gX11_feed_X7_isFull rfl rfl rfl (by decide +kernel) ⟨Nat.le_of_ble_eq_true rfl, Nat.le_of_ble_eq_true rfl⟩) mt_T145 rfl rfl hl.1 rfl (Nat.le_of_ble_eq_true rfl) dX11_feed_12 ⟨Nat.zero_le _, Nat.zero_le _⟩) hS (fun H locs hH hS => ?_)
  refine mt_jn1 hf (fun (v5 : Int32) => ∀ (H : Heap) (locs : List Loc) (ls : Array Slot), mt_H E M u H → va_S (mt_A E) s.heap H locs → lv_has ls 3 [(0, .ref (E.2.1 0)), (1, .int a1)] → W p l e (headSpec wsX11_feed ({ frames := 2, cells := 0, slots := 0, locals := 41 } : Room)).room s mid (([.ref (E.2.1 0), .int a1] : List Value).toArray) below meth c0 H locs 0 0 (MQ below (mt_Qi E r M' u) (([.ref (E.2.1 0), .int a1] : List Value).toArray) s 0 0 (mt_A E)) (F0 mid 23 ls [.int v5, .int r2])) ?_ ?_
  · intro v5 hf H locs ls hH hS hl
    refine lv_bipush (v := (-6)) hx hb dX11_feed_23 (by decide) ?_
    refine mt_b1I hf (fun r9 hg8 hf => ?_)
    refine mt_goi (mt_runS (As := [.int r2, .int v5, .int (-6 : Int32)]) (rest := []) ⟨hx, hb, hml, hown, hts⟩ hI hH (c_X11_firstOf l E r2 v5 (-6 : Int32) M u _ hg8) (va_cwS 3 hts gX11_feed_X11_firstOf rfl rfl rfl (by decide +kernel) ⟨Nat.le_of_ble_eq_true rfl, Nat.le_of_ble_eq_true rfl⟩) rfl hl.1 rfl (Nat.le_of_ble_eq_true rfl) dX11_feed_25 ⟨Nat.zero_le _, Nat.zero_le _⟩) hS (fun H locs hH hS => ?_)
    refine lv_istore_n (lv' := [(2, .int r9), (0, .ref (E.2.1 0)), (1, .int a1)]) hx hb dX11_feed_28 rfl hl (by decide) rfl (fun ls hl => ?_)
    refine lv_iload_n hx hb dX11_feed_29 rfl (lv_at hl 0 rfl) ?_
    refine lv_if_eq (tgt := 41) hx hb dX11_feed_30 (by decide) (fun c10 => ?_) (fun c10 => ?_)
    · have hf := mt_ifT c10 hf
      refine lv_aload_n hx hb dX11_feed_41 rfl (lv_at hl 1 rfl) ?_
      refine mt_getr (C := RX11) (T := TX11) (N := 10) hx hb hts hinX11 hown hI hH mt_T0 rfl 6 (by decide) kw0 rfl rfl dX11_feed_42 ?_
      refine lv_iload_n hx hb dX11_feed_45 rfl (lv_at hl 2 rfl) ?_
      refine mt_b2I hf (fun r12 M13 hg11 hf => ?_)
      refine mt_goi (mt_runV (i := 145) (As := [.int a1]) (rest := []) ⟨hx, hb, hml, hown, hts⟩ hI hH (c_X7_add l E a1 M u _ _ hg11) (cwV 1 hts gX11_feed_X7_add rfl rfl rfl (by decide +kernel) ⟨Nat.le_of_ble_eq_true rfl, Nat.le_of_ble_eq_true rfl⟩) mt_T145 rfl rfl hl.1 rfl (Nat.le_of_ble_eq_true rfl) dX11_feed_46 ⟨Nat.zero_le _, Nat.zero_le _⟩) hS (fun H locs hH hS => ?_)
      obtain ⟨i1, i2⟩ := mt_so2 hf
      subst i1
      subst i2
      exact mt_iret hx hb hr hI hH hS hlocks dX11_feed_49
    · have hf := mt_ifF c10 hf
      refine lv_aload_n hx hb dX11_feed_33 rfl (lv_at hl 1 rfl) ?_
      refine lv_iload_n hx hb dX11_feed_34 rfl (lv_at hl 0 rfl) ?_
      refine mt_b2I hf (fun r15 M16 hg14 hf => ?_)
      refine mt_goi (mt_runV (i := 0) (As := [.int r9]) (rest := []) ⟨hx, hb, hml, hown, hts⟩ hI hH (c_X11_refuse l E r9 M u _ _ hg14) (cwV 1 hts gX11_feed_X11_refuse rfl rfl rfl (by decide +kernel) ⟨Nat.le_of_ble_eq_true rfl, Nat.le_of_ble_eq_true rfl⟩) mt_T0 rfl rfl hl.1 rfl (Nat.le_of_ble_eq_true rfl) dX11_feed_35 ⟨Nat.zero_le _, Nat.zero_le _⟩) hS (fun H locs hH hS => ?_)
      refine lv_goto (tgt := 49) hx hb dX11_feed_38 (by decide) ?_
      obtain ⟨i1, i2⟩ := mt_so2 hf
      subst i1
      subst i2
      exact mt_iret hx hb hr hI hH hS hlocks dX11_feed_49
  · intro j6 hj7 hf
    refine lv_if_ne (tgt := 22) hx hb dX11_feed_15 (by decide) (fun c17 => ?_) (fun c17 => ?_)
    · have hf := mt_ifF c17 hf
      refine lv_iconst (v := 0) hx hb dX11_feed_22 (by decide) ?_
      exact hj7 (0 : Int32) hf _ _ _ hH hS (lv_sub hl [0, 1] rfl)
    · have hf := mt_ifT c17 hf
      refine lv_iconst (v := 1) hx hb dX11_feed_18 (by decide) ?_
      refine lv_goto (tgt := 23) hx hb dX11_feed_19 (by decide) ?_
      exact hj7 (1 : Int32) hf _ _ _ hH hS (lv_sub hl [0, 1] rfl)
set_option maxHeartbeats 4000000 in
set_option maxRecDepth 100000 in
theorem c_X11_house (l : Launch) (E : mt_E)  (M : mt_M) (u : mt_U) (r : Int32) (M' : mt_M) (hf : f_X11_house M = some (r, M')) : Met l yX11_house wsX11_house ({ frames := 6, cells := 0, slots := 0, locals := 143 } : Room) (mt_P E [.ref (E.2.1 0)] M u) (mt_Qi E r M' u) 0 0 (mt_A E) := by
  refine Met.ofW (cc := cX11_house) (maxL := 2) (ret := (some .int)) (by decide) rfl ?_
  intro p e s mid args below meth c0 s₁ B hml hv
  obtain ⟨rfl, hI, hH⟩ := hv
  have hx := B.exec
  have hb := B.bytes
  have hr := B.returns
  have hts := atoms_spec (ws := wsX11_house) B.pre
  have hown : s.vm.findClass RX11 = some mid.cls := findClass_of_methodNamed B.named
  have hlocks := B.notSynchronized
  have hS : va_S (mt_A E) s.heap s.heap [] := va_S.rf
  have hl := lv_entry ([.ref (E.2.1 0)]) (n := 2) (Nat.le_of_ble_eq_true rfl)
  rw [lg_entry_eq]
  generalize (lg_sl ([.ref (E.2.1 0)]) ++ List.replicate (2 - (lg_sl ([.ref (E.2.1 0)])).length) Slot.unset).toArray = ls at hl ⊢
  have hl : lv_has ls 2 [(0, .ref (E.2.1 0))] := hl
  unfold f_X11_house at hf
  have kw0 := hts (.fieldLink RX11 68 "MilkTwice" "letters" "LMilkTwice$Letters;") (List.mem_of_getElem? (i := 1) rfl)
  have kw1 := hts (.fieldLink RX11 39 "MilkTwice" "house" "LMilkTwice$House;") (List.mem_of_getElem? (i := 2) rfl)
  have kw2 := hts (.fieldLink RX11 43 "MilkTwice" "trial" "LMilkTwice$House;") (List.mem_of_getElem? (i := 3) rfl)
  have kw3 := hts (.fieldLink RX11 52 "MilkTwice" "history" "LMilkTwice$History;") (List.mem_of_getElem? (i := 4) rfl)
  have hinX11 : ∀ w ∈ u_ws RX11 TX11 10, w ∈ wsX11_house := fun w h => List.mem_cons_of_mem _ (List.mem_append_left _ (List.mem_append_left _ (List.mem_append_left _ (List.mem_append_left _ (List.mem_append_right _ h)))))
  refine lv_aload_n hx hb dX11_house_0 rfl (lv_at hl 0 rfl) ?_
  refine mt_getr (C := RX11) (T := TX11) (N := 10) hx hb hts hinX11 hown hI hH mt_T0 rfl 6 (by decide) kw0 rfl rfl dX11_house_1 ?_
  refine lv_aload_n hx hb dX11_house_4 rfl (lv_at hl 0 rfl) ?_
  refine mt_getr (C := RX11) (T := TX11) (N := 10) hx hb hts hinX11 hown hI hH mt_T0 rfl 0 (by decide) kw1 rfl rfl dX11_house_5 ?_
  refine lv_aload_n hx hb dX11_house_8 rfl (lv_at hl 0 rfl) ?_
  refine mt_getr (C := RX11) (T := TX11) (N := 10) hx hb hts hinX11 hown hI hH mt_T0 rfl 1 (by decide) kw2 rfl rfl dX11_house_9 ?_
  refine mt_b2I hf (fun r2 M3 hg1 hf => ?_)
  refine mt_goi (mt_runV (i := 145) (As := [.ref (E.2.1 10), .ref (E.2.1 21)]) (rest := []) ⟨hx, hb, hml, hown, hts⟩ hI hH (c_X7_tell l E 10 (by decide) 21 (by decide) M u _ _ hg1) (cwV 2 hts gX11_house_X7_tell rfl rfl rfl (by decide +kernel) ⟨Nat.le_of_ble_eq_true rfl, Nat.le_of_ble_eq_true rfl⟩) mt_T145 rfl rfl hl.1 rfl (Nat.le_of_ble_eq_true rfl) dX11_house_12 ⟨Nat.zero_le _, Nat.zero_le _⟩) hS (fun H locs hH hS => ?_)
  refine lv_istore_n (lv' := [(1, .int r2), (0, .ref (E.2.1 0))]) hx hb dX11_house_15 rfl hl (by decide) rfl (fun ls hl => ?_)
  refine lv_aload_n hx hb dX11_house_16 rfl (lv_at hl 1 rfl) ?_
  refine mt_getr (C := RX11) (T := TX11) (N := 10) hx hb hts hinX11 hown hI hH mt_T0 rfl 6 (by decide) kw0 rfl rfl dX11_house_17 ?_
  refine mt_b1I hf (fun M5 hg4 hf => ?_)
  refine mt_gov (mt_runV (i := 145) (As := []) (rest := []) ⟨hx, hb, hml, hown, hts⟩ hI hH (c_X7_wipe l E M3 u _ hg4) (cwV 0 hts gX11_house_X7_wipe rfl rfl rfl (by decide +kernel) ⟨Nat.le_of_ble_eq_true rfl, Nat.le_of_ble_eq_true rfl⟩) mt_T145 rfl rfl hl.1 rfl (Nat.le_of_ble_eq_true rfl) dX11_house_20 ⟨Nat.zero_le _, Nat.zero_le _⟩) hS (fun H locs hH hS => ?_)
  refine lv_iload_n hx hb dX11_house_23 rfl (lv_at hl 0 rfl) ?_
  refine lv_if_lt (tgt := 45) hx hb dX11_house_24 (by decide) (fun c6 => ?_) (fun c6 => ?_)
  · have hf := mt_ifT c6 hf
    refine lv_iload_n hx hb dX11_house_45 rfl (lv_at hl 0 rfl) ?_
    obtain ⟨i1, i2⟩ := mt_so2 hf
    subst i1
    subst i2
    exact mt_iret hx hb hr hI hH hS hlocks dX11_house_46
  · have hf := mt_ifF c6 hf
    refine lv_aload_n hx hb dX11_house_27 rfl (lv_at hl 1 rfl) ?_
    refine mt_getr (C := RX11) (T := TX11) (N := 10) hx hb hts hinX11 hown hI hH mt_T0 rfl 0 (by decide) kw1 rfl rfl dX11_house_28 ?_
    refine lv_aload_n hx hb dX11_house_31 rfl (lv_at hl 1 rfl) ?_
    refine mt_getr (C := RX11) (T := TX11) (N := 10) hx hb hts hinX11 hown hI hH mt_T0 rfl 1 (by decide) kw2 rfl rfl dX11_house_32 ?_
    refine mt_b1I hf (fun M8 hg7 hf => ?_)
    refine mt_gov (mt_runV (i := 10) (As := [.ref (E.2.1 21)]) (rest := []) ⟨hx, hb, hml, hown, hts⟩ hI hH (c_X4_become l E 10 (by decide) 21 (by decide) M5 u _ hg7) (cwV 1 hts gX11_house_X4_become rfl rfl rfl (by decide +kernel) ⟨Nat.le_of_ble_eq_true rfl, Nat.le_of_ble_eq_true rfl⟩) mt_T10 rfl rfl hl.1 rfl (Nat.le_of_ble_eq_true rfl) dX11_house_35 ⟨Nat.zero_le _, Nat.zero_le _⟩) hS (fun H locs hH hS => ?_)
    refine lv_aload_n hx hb dX11_house_38 rfl (lv_at hl 1 rfl) ?_
    refine mt_getr (C := RX11) (T := TX11) (N := 10) hx hb hts hinX11 hown hI hH mt_T0 rfl 4 (by decide) kw3 rfl rfl dX11_house_39 ?_
    refine mt_b1I hf (fun M10 hg9 hf => ?_)
    refine mt_gov (mt_runV (i := 43) (As := []) (rest := []) ⟨hx, hb, hml, hown, hts⟩ hI hH (c_X3_forget l E M8 u _ hg9) (cwV 0 hts gX11_house_X3_forget rfl rfl rfl (by decide +kernel) ⟨Nat.le_of_ble_eq_true rfl, Nat.le_of_ble_eq_true rfl⟩) mt_T43 rfl rfl hl.1 rfl (Nat.le_of_ble_eq_true rfl) dX11_house_42 ⟨Nat.zero_le _, Nat.zero_le _⟩) hS (fun H locs hH hS => ?_)
    refine lv_iload_n hx hb dX11_house_45 rfl (lv_at hl 0 rfl) ?_
    obtain ⟨i1, i2⟩ := mt_so2 hf
    subst i1
    subst i2
    exact mt_iret hx hb hr hI hH hS hlocks dX11_house_46
set_option maxHeartbeats 4000000 in
set_option maxRecDepth 100000 in
theorem c_X11_thingOf (l : Launch) (E : mt_E) (a1 : Int32) (a2 : Int32) (M : mt_M) (u : mt_U) (r : Int32) (M' : mt_M) (hf : f_X11_thingOf a1 a2 M = some (r, M')) : Met l yX11_thingOf wsX11_thingOf ({ frames := 4, cells := 0, slots := 0, locals := 86 } : Room) (mt_P E [.ref (E.2.1 0), .int a1, .int a2] M u) (mt_Qi E r M' u) 0 0 (mt_A E) := by
  refine Met.ofW (cc := cX11_thingOf) (maxL := 3) (ret := (some .int)) (by decide) rfl ?_
  intro p e s mid args below meth c0 s₁ B hml hv
  obtain ⟨rfl, hI, hH⟩ := hv
  have hx := B.exec
  have hb := B.bytes
  have hr := B.returns
  have hts := atoms_spec (ws := wsX11_thingOf) B.pre
  have hown : s.vm.findClass RX11 = some mid.cls := findClass_of_methodNamed B.named
  have hlocks := B.notSynchronized
  have hS : va_S (mt_A E) s.heap s.heap [] := va_S.rf
  have hl := lv_entry ([.ref (E.2.1 0), .int a1, .int a2]) (n := 3) (Nat.le_of_ble_eq_true rfl)
  rw [lg_entry_eq]
  generalize (lg_sl ([.ref (E.2.1 0), .int a1, .int a2]) ++ List.replicate (3 - (lg_sl ([.ref (E.2.1 0), .int a1, .int a2])).length) Slot.unset).toArray = ls at hl ⊢
  have hl : lv_has ls 3 [(0, .ref (E.2.1 0)), (1, .int a1), (2, .int a2)] := hl
  unfold f_X11_thingOf at hf
  have kw0 := hts (.fieldLink RX11 39 "MilkTwice" "house" "LMilkTwice$House;") (List.mem_of_getElem? (i := 1) rfl)
  have hinX11 : ∀ w ∈ u_ws RX11 TX11 10, w ∈ wsX11_thingOf := fun w h => List.mem_cons_of_mem _ (List.mem_append_left _ (List.mem_append_left _ (List.mem_append_right _ h)))
  have hinX4 : ∀ w ∈ u_ws RX4 TX4 6, w ∈ wsX11_thingOf := fun w h => List.mem_cons_of_mem _ (List.mem_append_left _ (List.mem_append_right _ h))
  refine lv_aload_n hx hb dX11_thingOf_0 rfl (lv_at hl 0 rfl) ?_
  refine mt_getr (C := RX11) (T := TX11) (N := 10) hx hb hts hinX11 hown hI hH mt_T0 rfl 0 (by decide) kw0 rfl rfl dX11_thingOf_1 ?_
  refine mt_getrN (C := RX4) (T := TX4) (N := 6) hx hb hts hinX4 hown hI hH mt_T10 rfl 0 (by decide) (List.mem_of_getElem? (i := 10) rfl) rfl rfl dX11_thingOf_4 ?_
  refine lv_iload_n hx hb dX11_thingOf_7 rfl (lv_at hl 1 rfl) ?_
  refine mt_b1I hf (fun r2 hg1 hf => ?_)
  refine mt_goi (mt_runV (i := 13) (As := [.int a1]) (rest := []) ⟨hx, hb, hml, hown, hts⟩ hI hH (c_X0_has l E 13 (by decide) a1 M u _ hg1) (cwV 1 hts gX11_thingOf_X0_has rfl rfl rfl (by decide +kernel) ⟨Nat.le_of_ble_eq_true rfl, Nat.le_of_ble_eq_true rfl⟩) mt_T13 rfl rfl hl.1 rfl (Nat.le_of_ble_eq_true rfl) dX11_thingOf_8 ⟨Nat.zero_le _, Nat.zero_le _⟩) hS (fun H locs hH hS => ?_)
  refine lv_if_ne (tgt := 20) hx hb dX11_thingOf_11 (by decide) (fun c3 => ?_) (fun c3 => ?_)
  · have hf := mt_ifF c3 hf
    refine lv_iload_n hx hb dX11_thingOf_20 rfl (lv_at hl 2 rfl) ?_
    refine lv_bipush (v := 8) hx hb dX11_thingOf_21 (by decide) ?_
    refine mt_b1I hf (fun r5 hg4 hf => ?_)
    refine mt_goi (mt_runS (As := [.int a2, .int (8 : Int32)]) (rest := []) ⟨hx, hb, hml, hown, hts⟩ hI hH (c_X11_isOneOf l E a2 (8 : Int32) M u _ hg4) (va_cwS 2 hts gX11_thingOf_X11_isOneOf rfl rfl rfl (by decide +kernel) ⟨Nat.le_of_ble_eq_true rfl, Nat.le_of_ble_eq_true rfl⟩) rfl hl.1 rfl (Nat.le_of_ble_eq_true rfl) dX11_thingOf_23 ⟨Nat.zero_le _, Nat.zero_le _⟩) hS (fun H locs hH hS => ?_)
    refine lv_if_eq (tgt := 44) hx hb dX11_thingOf_26 (by decide) (fun c6 => ?_) (fun c6 => ?_)
    · have hf := mt_ifT c6 hf
      refine lv_aload_n hx hb dX11_thingOf_44 rfl (lv_at hl 0 rfl) ?_
      refine lv_bipush (v := (-2)) hx hb dX11_thingOf_45 (by decide) ?_
      refine mt_b2I hf (fun r8 M9 hg7 hf => ?_)
      refine mt_goi (mt_runV (i := 0) (As := [.int (-2 : Int32)]) (rest := []) ⟨hx, hb, hml, hown, hts⟩ hI hH (c_X11_refuse l E (-2 : Int32) M u _ _ hg7) (cwV 1 hts gX11_thingOf_X11_refuse rfl rfl rfl (by decide +kernel) ⟨Nat.le_of_ble_eq_true rfl, Nat.le_of_ble_eq_true rfl⟩) mt_T0 rfl rfl hl.1 rfl (Nat.le_of_ble_eq_true rfl) dX11_thingOf_47 ⟨Nat.zero_le _, Nat.zero_le _⟩) hS (fun H locs hH hS => ?_)
      obtain ⟨i1, i2⟩ := mt_so2 hf
      subst i1
      subst i2
      exact mt_iret hx hb hr hI hH hS hlocks dX11_thingOf_50
    · have hf := mt_ifF c6 hf
      refine lv_aload_n hx hb dX11_thingOf_29 rfl (lv_at hl 0 rfl) ?_
      refine mt_getr (C := RX11) (T := TX11) (N := 10) hx hb hts hinX11 hown hI hH mt_T0 rfl 0 (by decide) kw0 rfl rfl dX11_thingOf_30 ?_
      refine mt_getrN (C := RX4) (T := TX4) (N := 6) hx hb hts hinX4 hown hI hH mt_T10 rfl 0 (by decide) (List.mem_of_getElem? (i := 10) rfl) rfl rfl dX11_thingOf_33 ?_
      refine lv_iload_n hx hb dX11_thingOf_36 rfl (lv_at hl 1 rfl) ?_
      refine lv_iload_n hx hb dX11_thingOf_37 rfl (lv_at hl 2 rfl) ?_
      refine mt_b1I hf (fun r11 hg10 hf => ?_)
      refine mt_goi (mt_runV (i := 13) (As := [.int a1, .int a2]) (rest := []) ⟨hx, hb, hml, hown, hts⟩ hI hH (c_X0_tellOf l E 13 (by decide) a1 a2 M u _ hg10) (cwV 2 hts gX11_thingOf_X0_tellOf rfl rfl rfl (by decide +kernel) ⟨Nat.le_of_ble_eq_true rfl, Nat.le_of_ble_eq_true rfl⟩) mt_T13 rfl rfl hl.1 rfl (Nat.le_of_ble_eq_true rfl) dX11_thingOf_38 ⟨Nat.zero_le _, Nat.zero_le _⟩) hS (fun H locs hH hS => ?_)
      refine lv_goto (tgt := 50) hx hb dX11_thingOf_41 (by decide) ?_
      obtain ⟨i1, i2⟩ := mt_so2 hf
      subst i1
      subst i2
      exact mt_iret hx hb hr hI hH hS hlocks dX11_thingOf_50
  · have hf := mt_ifT c3 hf
    refine lv_aload_n hx hb dX11_thingOf_14 rfl (lv_at hl 0 rfl) ?_
    refine lv_iconst (v := (-1)) hx hb dX11_thingOf_15 (by decide) ?_
    refine mt_b2I hf (fun r13 M14 hg12 hf => ?_)
    refine mt_goi (mt_runV (i := 0) (As := [.int (-1 : Int32)]) (rest := []) ⟨hx, hb, hml, hown, hts⟩ hI hH (c_X11_refuse l E (-1 : Int32) M u _ _ hg12) (cwV 1 hts gX11_thingOf_X11_refuse rfl rfl rfl (by decide +kernel) ⟨Nat.le_of_ble_eq_true rfl, Nat.le_of_ble_eq_true rfl⟩) mt_T0 rfl rfl hl.1 rfl (Nat.le_of_ble_eq_true rfl) dX11_thingOf_16 ⟨Nat.zero_le _, Nat.zero_le _⟩) hS (fun H locs hH hS => ?_)
    obtain ⟨i1, i2⟩ := mt_so2 hf
    subst i1
    subst i2
    exact mt_iret hx hb hr hI hH hS hlocks dX11_thingOf_19
set_option maxHeartbeats 4000000 in
set_option maxRecDepth 100000 in
theorem c_X11_thing (l : Launch) (E : mt_E) (a1 : Int32) (a2 : Int32) (a3 : Int32) (M : mt_M) (u : mt_U) (r : Int32) (M' : mt_M) (hf : f_X11_thing a1 a2 a3 M = some (r, M')) : Met l yX11_thing wsX11_thing ({ frames := 4, cells := 0, slots := 0, locals := 95 } : Room) (mt_P E [.ref (E.2.1 0), .int a1, .int a2, .int a3] M u) (mt_Qi E r M' u) 0 0 (mt_A E) := by
  refine Met.ofW (cc := cX11_thing) (maxL := 5) (ret := (some .int)) (by decide) rfl ?_
  intro p e s mid args below meth c0 s₁ B hml hv
  obtain ⟨rfl, hI, hH⟩ := hv
  have hx := B.exec
  have hb := B.bytes
  have hr := B.returns
  have hts := atoms_spec (ws := wsX11_thing) B.pre
  have hown : s.vm.findClass RX11 = some mid.cls := findClass_of_methodNamed B.named
  have hlocks := B.notSynchronized
  have hS : va_S (mt_A E) s.heap s.heap [] := va_S.rf
  have hl := lv_entry ([.ref (E.2.1 0), .int a1, .int a2, .int a3]) (n := 5) (Nat.le_of_ble_eq_true rfl)
  rw [lg_entry_eq]
  generalize (lg_sl ([.ref (E.2.1 0), .int a1, .int a2, .int a3]) ++ List.replicate (5 - (lg_sl ([.ref (E.2.1 0), .int a1, .int a2, .int a3])).length) Slot.unset).toArray = ls at hl ⊢
  have hl : lv_has ls 5 [(0, .ref (E.2.1 0)), (1, .int a1), (2, .int a2), (3, .int a3)] := hl
  unfold f_X11_thing at hf
  have kw0 := hts (.fieldLink RX11 39 "MilkTwice" "house" "LMilkTwice$House;") (List.mem_of_getElem? (i := 1) rfl)
  have kw1 := hts (.fieldLink RX11 52 "MilkTwice" "history" "LMilkTwice$History;") (List.mem_of_getElem? (i := 2) rfl)
  have hinX11 : ∀ w ∈ u_ws RX11 TX11 10, w ∈ wsX11_thing := fun w h => List.mem_cons_of_mem _ (List.mem_append_left _ (List.mem_append_left _ (List.mem_append_left _ (List.mem_append_right _ h))))
  have hinX4 : ∀ w ∈ u_ws RX4 TX4 6, w ∈ wsX11_thing := fun w h => List.mem_cons_of_mem _ (List.mem_append_left _ (List.mem_append_left _ (List.mem_append_right _ h)))
  refine lv_aload_n hx hb dX11_thing_0 rfl (lv_at hl 0 rfl) ?_
  refine mt_getr (C := RX11) (T := TX11) (N := 10) hx hb hts hinX11 hown hI hH mt_T0 rfl 0 (by decide) kw0 rfl rfl dX11_thing_1 ?_
  refine mt_getrN (C := RX4) (T := TX4) (N := 6) hx hb hts hinX4 hown hI hH mt_T10 rfl 0 (by decide) (List.mem_of_getElem? (i := 10) rfl) rfl rfl dX11_thing_4 ?_
  refine lv_iload_n hx hb dX11_thing_7 rfl (lv_at hl 1 rfl) ?_
  refine lv_iload_n hx hb dX11_thing_8 rfl (lv_at hl 2 rfl) ?_
  refine lv_iload_n hx hb dX11_thing_9 rfl (lv_at hl 3 rfl) ?_
  refine mt_b2I hf (fun r2 M3 hg1 hf => ?_)
  refine mt_goi (mt_runV (i := 13) (As := [.int a1, .int a2, .int a3]) (rest := []) ⟨hx, hb, hml, hown, hts⟩ hI hH (c_X0_add l E 13 (by decide) a1 a2 a3 M u _ _ hg1) (cwV 3 hts gX11_thing_X0_add rfl rfl rfl (by decide +kernel) ⟨Nat.le_of_ble_eq_true rfl, Nat.le_of_ble_eq_true rfl⟩) mt_T13 rfl rfl hl.1 rfl (Nat.le_of_ble_eq_true rfl) dX11_thing_10 ⟨Nat.zero_le _, Nat.zero_le _⟩) hS (fun H locs hH hS => ?_)
  refine lv_istore (lv' := [(4, .int r2), (0, .ref (E.2.1 0)), (1, .int a1), (2, .int a2), (3, .int a3)]) hx hb dX11_thing_13 hl (by decide) rfl (fun ls hl => ?_)
  refine lv_iload hx hb dX11_thing_15 (lv_at hl 0 rfl) ?_
  refine lv_if_ge (tgt := 27) hx hb dX11_thing_17 (by decide) (fun c4 => ?_) (fun c4 => ?_)
  · have hf := mt_ifT c4 hf
    refine lv_aload_n hx hb dX11_thing_27 rfl (lv_at hl 1 rfl) ?_
    refine mt_getr (C := RX11) (T := TX11) (N := 10) hx hb hts hinX11 hown hI hH mt_T0 rfl 4 (by decide) kw1 rfl rfl dX11_thing_28 ?_
    refine mt_b1I hf (fun M6 hg5 hf => ?_)
    refine mt_gov (mt_runV (i := 43) (As := []) (rest := []) ⟨hx, hb, hml, hown, hts⟩ hI hH (c_X3_forget l E M3 u _ hg5) (cwV 0 hts gX11_thing_X3_forget rfl rfl rfl (by decide +kernel) ⟨Nat.le_of_ble_eq_true rfl, Nat.le_of_ble_eq_true rfl⟩) mt_T43 rfl rfl hl.1 rfl (Nat.le_of_ble_eq_true rfl) dX11_thing_31 ⟨Nat.zero_le _, Nat.zero_le _⟩) hS (fun H locs hH hS => ?_)
    refine lv_iload hx hb dX11_thing_34 (lv_at hl 0 rfl) ?_
    obtain ⟨i1, i2⟩ := mt_so2 hf
    subst i1
    subst i2
    exact mt_iret hx hb hr hI hH hS hlocks dX11_thing_36
  · have hf := mt_ifF c4 hf
    refine lv_aload_n hx hb dX11_thing_20 rfl (lv_at hl 1 rfl) ?_
    refine lv_iload hx hb dX11_thing_21 (lv_at hl 0 rfl) ?_
    refine mt_b2I hf (fun r8 M9 hg7 hf => ?_)
    refine mt_goi (mt_runV (i := 0) (As := [.int r2]) (rest := []) ⟨hx, hb, hml, hown, hts⟩ hI hH (c_X11_refuse l E r2 M3 u _ _ hg7) (cwV 1 hts gX11_thing_X11_refuse rfl rfl rfl (by decide +kernel) ⟨Nat.le_of_ble_eq_true rfl, Nat.le_of_ble_eq_true rfl⟩) mt_T0 rfl rfl hl.1 rfl (Nat.le_of_ble_eq_true rfl) dX11_thing_23 ⟨Nat.zero_le _, Nat.zero_le _⟩) hS (fun H locs hH hS => ?_)
    obtain ⟨i1, i2⟩ := mt_so2 hf
    subst i1
    subst i2
    exact mt_iret hx hb hr hI hH hS hlocks dX11_thing_26
set_option maxHeartbeats 4000000 in
set_option maxRecDepth 100000 in
theorem c_X11_stock (l : Launch) (E : mt_E) (a1 : Int32) (a2 : Int32) (M : mt_M) (u : mt_U) (r : Int32) (M' : mt_M) (hf : f_X11_stock a1 a2 M = some (r, M')) : Met l yX11_stock wsX11_stock ({ frames := 4, cells := 0, slots := 0, locals := 89 } : Room) (mt_P E [.ref (E.2.1 0), .int a1, .int a2] M u) (mt_Qi E r M' u) 0 0 (mt_A E) := by
  refine Met.ofW (cc := cX11_stock) (maxL := 5) (ret := (some .int)) (by decide) rfl ?_
  intro p e s mid args below meth c0 s₁ B hml hv
  obtain ⟨rfl, hI, hH⟩ := hv
  have hx := B.exec
  have hb := B.bytes
  have hr := B.returns
  have hts := atoms_spec (ws := wsX11_stock) B.pre
  have hown : s.vm.findClass RX11 = some mid.cls := findClass_of_methodNamed B.named
  have hlocks := B.notSynchronized
  have hS : va_S (mt_A E) s.heap s.heap [] := va_S.rf
  have hl := lv_entry ([.ref (E.2.1 0), .int a1, .int a2]) (n := 5) (Nat.le_of_ble_eq_true rfl)
  rw [lg_entry_eq]
  generalize (lg_sl ([.ref (E.2.1 0), .int a1, .int a2]) ++ List.replicate (5 - (lg_sl ([.ref (E.2.1 0), .int a1, .int a2])).length) Slot.unset).toArray = ls at hl ⊢
  have hl : lv_has ls 5 [(0, .ref (E.2.1 0)), (1, .int a1), (2, .int a2)] := hl
  unfold f_X11_stock at hf
  have kw0 := hts (.fieldLink RX11 52 "MilkTwice" "history" "LMilkTwice$History;") (List.mem_of_getElem? (i := 1) rfl)
  have kw1 := hts (.fieldLink RX11 39 "MilkTwice" "house" "LMilkTwice$House;") (List.mem_of_getElem? (i := 2) rfl)
  have hinX11 : ∀ w ∈ u_ws RX11 TX11 10, w ∈ wsX11_stock := fun w h => List.mem_cons_of_mem _ (List.mem_append_left _ (List.mem_append_left _ (List.mem_append_left _ (List.mem_append_right _ h))))
  have hinX4 : ∀ w ∈ u_ws RX4 TX4 6, w ∈ wsX11_stock := fun w h => List.mem_cons_of_mem _ (List.mem_append_left _ (List.mem_append_left _ (List.mem_append_right _ h)))
  refine lv_aload_n hx hb dX11_stock_0 rfl (lv_at hl 0 rfl) ?_
  refine lv_iload_n hx hb dX11_stock_1 rfl (lv_at hl 1 rfl) ?_
  refine lv_iload_n hx hb dX11_stock_2 rfl (lv_at hl 2 rfl) ?_
  refine lv_iconst (v := 0) hx hb dX11_stock_3 (by decide) ?_
  refine lv_bipush (v := 99) hx hb dX11_stock_4 (by decide) ?_
  refine mt_b1I hf (fun r2 hg1 hf => ?_)
  refine mt_goi (mt_runV (i := 0) (As := [.int a1, .int a2, .int (0 : Int32), .int (99 : Int32)]) (rest := []) ⟨hx, hb, hml, hown, hts⟩ hI hH (c_X11_refusalOf l E a1 a2 (0 : Int32) (99 : Int32) M u _ hg1) (cwV 4 hts gX11_stock_X11_refusalOf rfl rfl rfl (by decide +kernel) ⟨Nat.le_of_ble_eq_true rfl, Nat.le_of_ble_eq_true rfl⟩) mt_T0 rfl rfl hl.1 rfl (Nat.le_of_ble_eq_true rfl) dX11_stock_6 ⟨Nat.zero_le _, Nat.zero_le _⟩) hS (fun H locs hH hS => ?_)
  refine lv_istore_n (lv' := [(3, .int r2), (0, .ref (E.2.1 0)), (1, .int a1), (2, .int a2)]) hx hb dX11_stock_9 rfl hl (by decide) rfl (fun ls hl => ?_)
  refine lv_iload_n hx hb dX11_stock_10 rfl (lv_at hl 0 rfl) ?_
  refine lv_if_eq (tgt := 20) hx hb dX11_stock_11 (by decide) (fun c3 => ?_) (fun c3 => ?_)
  · have hf := mt_ifT c3 hf
    refine lv_aload_n hx hb dX11_stock_20 rfl (lv_at hl 1 rfl) ?_
    refine mt_getr (C := RX11) (T := TX11) (N := 10) hx hb hts hinX11 hown hI hH mt_T0 rfl 4 (by decide) kw0 rfl rfl dX11_stock_21 ?_
    refine lv_aload_n hx hb dX11_stock_24 rfl (lv_at hl 1 rfl) ?_
    refine mt_getr (C := RX11) (T := TX11) (N := 10) hx hb hts hinX11 hown hI hH mt_T0 rfl 0 (by decide) kw1 rfl rfl dX11_stock_25 ?_
    refine mt_b1I hf (fun M5 hg4 hf => ?_)
    refine mt_gov (mt_runV (i := 43) (As := [.ref (E.2.1 10)]) (rest := []) ⟨hx, hb, hml, hown, hts⟩ hI hH (c_X3_keep l E 10 (by decide) M u _ hg4) (cwV 1 hts gX11_stock_X3_keep rfl rfl rfl (by decide +kernel) ⟨Nat.le_of_ble_eq_true rfl, Nat.le_of_ble_eq_true rfl⟩) mt_T43 rfl rfl hl.1 rfl (Nat.le_of_ble_eq_true rfl) dX11_stock_28 ⟨Nat.zero_le _, Nat.zero_le _⟩) hS (fun H locs hH hS => ?_)
    refine lv_aload_n hx hb dX11_stock_31 rfl (lv_at hl 1 rfl) ?_
    refine mt_getr (C := RX11) (T := TX11) (N := 10) hx hb hts hinX11 hown hI hH mt_T0 rfl 0 (by decide) kw1 rfl rfl dX11_stock_32 ?_
    refine mt_getrN (C := RX4) (T := TX4) (N := 6) hx hb hts hinX4 hown hI hH mt_T10 rfl 0 (by decide) (List.mem_of_getElem? (i := 10) rfl) rfl rfl dX11_stock_35 ?_
    refine lv_iload_n hx hb dX11_stock_38 rfl (lv_at hl 2 rfl) ?_
    refine mt_b1I hf (fun r7 hg6 hf => ?_)
    refine mt_goi (mt_runV (i := 13) (As := [.int a1]) (rest := []) ⟨hx, hb, hml, hown, hts⟩ hI hH (c_X0_stockOf l E 13 (by decide) a1 M5 u _ hg6) (cwV 1 hts gX11_stock_X0_stockOf rfl rfl rfl (by decide +kernel) ⟨Nat.le_of_ble_eq_true rfl, Nat.le_of_ble_eq_true rfl⟩) mt_T13 rfl rfl hl.1 rfl (Nat.le_of_ble_eq_true rfl) dX11_stock_39 ⟨Nat.zero_le _, Nat.zero_le _⟩) hS (fun H locs hH hS => ?_)
    refine lv_istore (lv' := [(4, .int r7), (3, .int r2), (0, .ref (E.2.1 0)), (1, .int a1), (2, .int a2)]) hx hb dX11_stock_42 hl (by decide) rfl (fun ls hl => ?_)
    refine lv_aload_n hx hb dX11_stock_44 rfl (lv_at hl 2 rfl) ?_
    refine mt_getr (C := RX11) (T := TX11) (N := 10) hx hb hts hinX11 hown hI hH mt_T0 rfl 0 (by decide) kw1 rfl rfl dX11_stock_45 ?_
    refine mt_getrN (C := RX4) (T := TX4) (N := 6) hx hb hts hinX4 hown hI hH mt_T10 rfl 0 (by decide) (List.mem_of_getElem? (i := 10) rfl) rfl rfl dX11_stock_48 ?_
    refine lv_iload_n hx hb dX11_stock_51 rfl (lv_at hl 3 rfl) ?_
    refine lv_iload_n hx hb dX11_stock_52 rfl (lv_at hl 4 rfl) ?_
    refine mt_b1I hf (fun M9 hg8 hf => ?_)
    refine mt_gov (mt_runV (i := 13) (As := [.int a1, .int a2]) (rest := []) ⟨hx, hb, hml, hown, hts⟩ hI hH (c_X0_putStock l E 13 (by decide) a1 a2 M5 u _ hg8) (cwV 2 hts gX11_stock_X0_putStock rfl rfl rfl (by decide +kernel) ⟨Nat.le_of_ble_eq_true rfl, Nat.le_of_ble_eq_true rfl⟩) mt_T13 rfl rfl hl.1 rfl (Nat.le_of_ble_eq_true rfl) dX11_stock_53 ⟨Nat.zero_le _, Nat.zero_le _⟩) hS (fun H locs hH hS => ?_)
    refine lv_iload hx hb dX11_stock_56 (lv_at hl 0 rfl) ?_
    obtain ⟨i1, i2⟩ := mt_so2 hf
    subst i1
    subst i2
    exact mt_iret hx hb hr hI hH hS hlocks dX11_stock_58
  · have hf := mt_ifF c3 hf
    refine lv_aload_n hx hb dX11_stock_14 rfl (lv_at hl 1 rfl) ?_
    refine lv_iload_n hx hb dX11_stock_15 rfl (lv_at hl 0 rfl) ?_
    refine mt_b2I hf (fun r11 M12 hg10 hf => ?_)
    refine mt_goi (mt_runV (i := 0) (As := [.int r2]) (rest := []) ⟨hx, hb, hml, hown, hts⟩ hI hH (c_X11_refuse l E r2 M u _ _ hg10) (cwV 1 hts gX11_stock_X11_refuse rfl rfl rfl (by decide +kernel) ⟨Nat.le_of_ble_eq_true rfl, Nat.le_of_ble_eq_true rfl⟩) mt_T0 rfl rfl hl.1 rfl (Nat.le_of_ble_eq_true rfl) dX11_stock_16 ⟨Nat.zero_le _, Nat.zero_le _⟩) hS (fun H locs hH hS => ?_)
    obtain ⟨i1, i2⟩ := mt_so2 hf
    subst i1
    subst i2
    exact mt_iret hx hb hr hI hH hS hlocks dX11_stock_19
set_option maxHeartbeats 4000000 in
set_option maxRecDepth 100000 in
theorem c_X11_lineOf (l : Launch) (E : mt_E) (a1 : Int32) (a2 : Int32) (a3 : Int32) (M : mt_M) (u : mt_U) (r : Int32) (M' : mt_M) (hf : f_X11_lineOf a1 a2 a3 M = some (r, M')) : Met l yX11_lineOf wsX11_lineOf ({ frames := 3, cells := 0, slots := 0, locals := 65 } : Room) (mt_P E [.ref (E.2.1 0), .int a1, .int a2, .int a3] M u) (mt_Qi E r M' u) 0 0 (mt_A E) := by
  refine Met.ofW (cc := cX11_lineOf) (maxL := 4) (ret := (some .int)) (by decide) rfl ?_
  intro p e s mid args below meth c0 s₁ B hml hv
  obtain ⟨rfl, hI, hH⟩ := hv
  have hx := B.exec
  have hb := B.bytes
  have hr := B.returns
  have hts := atoms_spec (ws := wsX11_lineOf) B.pre
  have hown : s.vm.findClass RX11 = some mid.cls := findClass_of_methodNamed B.named
  have hlocks := B.notSynchronized
  have hS : va_S (mt_A E) s.heap s.heap [] := va_S.rf
  have hl := lv_entry ([.ref (E.2.1 0), .int a1, .int a2, .int a3]) (n := 4) (Nat.le_of_ble_eq_true rfl)
  rw [lg_entry_eq]
  generalize (lg_sl ([.ref (E.2.1 0), .int a1, .int a2, .int a3]) ++ List.replicate (4 - (lg_sl ([.ref (E.2.1 0), .int a1, .int a2, .int a3])).length) Slot.unset).toArray = ls at hl ⊢
  have hl : lv_has ls 4 [(0, .ref (E.2.1 0)), (1, .int a1), (2, .int a2), (3, .int a3)] := hl
  unfold f_X11_lineOf at hf
  have kw0 := hts (.fieldLink RX11 39 "MilkTwice" "house" "LMilkTwice$House;") (List.mem_of_getElem? (i := 1) rfl)
  have hinX11 : ∀ w ∈ u_ws RX11 TX11 10, w ∈ wsX11_lineOf := fun w h => List.mem_cons_of_mem _ (List.mem_append_left _ (List.mem_append_left _ (List.mem_append_right _ h)))
  refine lv_aload_n hx hb dX11_lineOf_0 rfl (lv_at hl 0 rfl) ?_
  refine mt_getr (C := RX11) (T := TX11) (N := 10) hx hb hts hinX11 hown hI hH mt_T0 rfl 0 (by decide) kw0 rfl rfl dX11_lineOf_1 ?_
  refine lv_iload_n hx hb dX11_lineOf_4 rfl (lv_at hl 1 rfl) ?_
  refine lv_iload_n hx hb dX11_lineOf_5 rfl (lv_at hl 2 rfl) ?_
  refine mt_b1I hf (fun r2 hg1 hf => ?_)
  refine mt_goi (mt_runV (i := 10) (As := [.int a1, .int a2]) (rest := []) ⟨hx, hb, hml, hown, hts⟩ hI hH (c_X4_isLine l E 10 (by decide) a1 a2 M u _ hg1) (cwV 2 hts gX11_lineOf_X4_isLine rfl rfl rfl (by decide +kernel) ⟨Nat.le_of_ble_eq_true rfl, Nat.le_of_ble_eq_true rfl⟩) mt_T10 rfl rfl hl.1 rfl (Nat.le_of_ble_eq_true rfl) dX11_lineOf_6 ⟨Nat.zero_le _, Nat.zero_le _⟩) hS (fun H locs hH hS => ?_)
  refine lv_if_ne (tgt := 18) hx hb dX11_lineOf_9 (by decide) (fun c3 => ?_) (fun c3 => ?_)
  · have hf := mt_ifF c3 hf
    refine lv_iload_n hx hb dX11_lineOf_18 rfl (lv_at hl 3 rfl) ?_
    refine lv_iconst (v := 1) hx hb dX11_lineOf_19 (by decide) ?_
    refine mt_b1I hf (fun r5 hg4 hf => ?_)
    refine mt_goi (mt_runS (As := [.int a3, .int (1 : Int32)]) (rest := []) ⟨hx, hb, hml, hown, hts⟩ hI hH (c_X11_isOneOf l E a3 (1 : Int32) M u _ hg4) (va_cwS 2 hts gX11_lineOf_X11_isOneOf rfl rfl rfl (by decide +kernel) ⟨Nat.le_of_ble_eq_true rfl, Nat.le_of_ble_eq_true rfl⟩) rfl hl.1 rfl (Nat.le_of_ble_eq_true rfl) dX11_lineOf_20 ⟨Nat.zero_le _, Nat.zero_le _⟩) hS (fun H locs hH hS => ?_)
    refine lv_if_ne (tgt := 33) hx hb dX11_lineOf_23 (by decide) (fun c6 => ?_) (fun c6 => ?_)
    · have hf := mt_ifF c6 hf
      refine lv_iload_n hx hb dX11_lineOf_33 rfl (lv_at hl 3 rfl) ?_
      refine lv_if_ne (tgt := 52) hx hb dX11_lineOf_34 (by decide) (fun c7 => ?_) (fun c7 => ?_)
      · have hf := mt_ifF c7 hf
        refine lv_aload_n hx hb dX11_lineOf_52 rfl (lv_at hl 0 rfl) ?_
        refine mt_getr (C := RX11) (T := TX11) (N := 10) hx hb hts hinX11 hown hI hH mt_T0 rfl 0 (by decide) kw0 rfl rfl dX11_lineOf_53 ?_
        refine lv_iload_n hx hb dX11_lineOf_56 rfl (lv_at hl 1 rfl) ?_
        refine lv_iload_n hx hb dX11_lineOf_57 rfl (lv_at hl 2 rfl) ?_
        refine mt_b1I hf (fun r9 hg8 hf => ?_)
        refine mt_goi (mt_runV (i := 10) (As := [.int a1, .int a2]) (rest := []) ⟨hx, hb, hml, hown, hts⟩ hI hH (c_X4_clockOf l E 10 (by decide) a1 a2 M u _ hg8) (cwV 2 hts gX11_lineOf_X4_clockOf rfl rfl rfl (by decide +kernel) ⟨Nat.le_of_ble_eq_true rfl, Nat.le_of_ble_eq_true rfl⟩) mt_T10 rfl rfl hl.1 rfl (Nat.le_of_ble_eq_true rfl) dX11_lineOf_58 ⟨Nat.zero_le _, Nat.zero_le _⟩) hS (fun H locs hH hS => ?_)
        obtain ⟨i1, i2⟩ := mt_so2 hf
        subst i1
        subst i2
        exact mt_iret hx hb hr hI hH hS hlocks dX11_lineOf_61
      · have hf := mt_ifT c7 hf
        refine lv_aload_n hx hb dX11_lineOf_37 rfl (lv_at hl 0 rfl) ?_
        refine mt_getr (C := RX11) (T := TX11) (N := 10) hx hb hts hinX11 hown hI hH mt_T0 rfl 0 (by decide) kw0 rfl rfl dX11_lineOf_38 ?_
        refine lv_iload_n hx hb dX11_lineOf_41 rfl (lv_at hl 1 rfl) ?_
        refine mt_b1I hf (fun r11 hg10 hf => ?_)
        refine mt_goi (mt_runV (i := 10) (As := [.int a1]) (rest := []) ⟨hx, hb, hml, hown, hts⟩ hI hH (c_X4_wantedBy l E 10 (by decide) a1 M u _ hg10) (cwV 1 hts gX11_lineOf_X4_wantedBy rfl rfl rfl (by decide +kernel) ⟨Nat.le_of_ble_eq_true rfl, Nat.le_of_ble_eq_true rfl⟩) mt_T10 rfl rfl hl.1 rfl (Nat.le_of_ble_eq_true rfl) dX11_lineOf_42 ⟨Nat.zero_le _, Nat.zero_le _⟩) hS (fun H locs hH hS => ?_)
        refine lv_iload_n hx hb dX11_lineOf_45 rfl (lv_at hl 2 rfl) ?_
        refine lv_ishr hx hb dX11_lineOf_46 ?_
        refine lv_iconst (v := 1) hx hb dX11_lineOf_47 (by decide) ?_
        refine lv_iand hx hb dX11_lineOf_48 ?_
        refine lv_goto (tgt := 61) hx hb dX11_lineOf_49 (by decide) ?_
        obtain ⟨i1, i2⟩ := mt_so2 hf
        subst i1
        subst i2
        exact mt_iret hx hb hr hI hH hS hlocks dX11_lineOf_61
    · have hf := mt_ifT c6 hf
      refine lv_aload_n hx hb dX11_lineOf_26 rfl (lv_at hl 0 rfl) ?_
      refine lv_bipush (v := (-2)) hx hb dX11_lineOf_27 (by decide) ?_
      refine mt_b2I hf (fun r13 M14 hg12 hf => ?_)
      refine mt_goi (mt_runV (i := 0) (As := [.int (-2 : Int32)]) (rest := []) ⟨hx, hb, hml, hown, hts⟩ hI hH (c_X11_refuse l E (-2 : Int32) M u _ _ hg12) (cwV 1 hts gX11_lineOf_X11_refuse rfl rfl rfl (by decide +kernel) ⟨Nat.le_of_ble_eq_true rfl, Nat.le_of_ble_eq_true rfl⟩) mt_T0 rfl rfl hl.1 rfl (Nat.le_of_ble_eq_true rfl) dX11_lineOf_29 ⟨Nat.zero_le _, Nat.zero_le _⟩) hS (fun H locs hH hS => ?_)
      obtain ⟨i1, i2⟩ := mt_so2 hf
      subst i1
      subst i2
      exact mt_iret hx hb hr hI hH hS hlocks dX11_lineOf_32
  · have hf := mt_ifT c3 hf
    refine lv_aload_n hx hb dX11_lineOf_12 rfl (lv_at hl 0 rfl) ?_
    refine lv_iconst (v := (-1)) hx hb dX11_lineOf_13 (by decide) ?_
    refine mt_b2I hf (fun r16 M17 hg15 hf => ?_)
    refine mt_goi (mt_runV (i := 0) (As := [.int (-1 : Int32)]) (rest := []) ⟨hx, hb, hml, hown, hts⟩ hI hH (c_X11_refuse l E (-1 : Int32) M u _ _ hg15) (cwV 1 hts gX11_lineOf_X11_refuse rfl rfl rfl (by decide +kernel) ⟨Nat.le_of_ble_eq_true rfl, Nat.le_of_ble_eq_true rfl⟩) mt_T0 rfl rfl hl.1 rfl (Nat.le_of_ble_eq_true rfl) dX11_lineOf_14 ⟨Nat.zero_le _, Nat.zero_le _⟩) hS (fun H locs hH hS => ?_)
    obtain ⟨i1, i2⟩ := mt_so2 hf
    subst i1
    subst i2
    exact mt_iret hx hb hr hI hH hS hlocks dX11_lineOf_17
set_option maxHeartbeats 4000000 in
set_option maxRecDepth 100000 in
theorem c_X11_markOrRefuse (l : Launch) (E : mt_E) (a1 : Int32) (a2 : Int32) (a3 : Int32) (M : mt_M) (u : mt_U) (r : Int32) (M' : mt_M) (hf : f_X11_markOrRefuse a1 a2 a3 M = some (r, M')) : Met l yX11_markOrRefuse wsX11_markOrRefuse ({ frames := 4, cells := 0, slots := 0, locals := 90 } : Room) (mt_P E [.ref (E.2.1 0), .int a1, .int a2, .int a3] M u) (mt_Qi E r M' u) 0 0 (mt_A E) := by
  refine Met.ofW (cc := cX11_markOrRefuse) (maxL := 5) (ret := (some .int)) (by decide) rfl ?_
  intro p e s mid args below meth c0 s₁ B hml hv
  obtain ⟨rfl, hI, hH⟩ := hv
  have hx := B.exec
  have hb := B.bytes
  have hr := B.returns
  have hts := atoms_spec (ws := wsX11_markOrRefuse) B.pre
  have hown : s.vm.findClass RX11 = some mid.cls := findClass_of_methodNamed B.named
  have hlocks := B.notSynchronized
  have hS : va_S (mt_A E) s.heap s.heap [] := va_S.rf
  have hl := lv_entry ([.ref (E.2.1 0), .int a1, .int a2, .int a3]) (n := 5) (Nat.le_of_ble_eq_true rfl)
  rw [lg_entry_eq]
  generalize (lg_sl ([.ref (E.2.1 0), .int a1, .int a2, .int a3]) ++ List.replicate (5 - (lg_sl ([.ref (E.2.1 0), .int a1, .int a2, .int a3])).length) Slot.unset).toArray = ls at hl ⊢
  have hl : lv_has ls 5 [(0, .ref (E.2.1 0)), (1, .int a1), (2, .int a2), (3, .int a3)] := hl
  unfold f_X11_markOrRefuse at hf
  have kw0 := hts (.fieldLink RX11 39 "MilkTwice" "house" "LMilkTwice$House;") (List.mem_of_getElem? (i := 1) rfl)
  have kw1 := hts (.fieldLink RX11 52 "MilkTwice" "history" "LMilkTwice$History;") (List.mem_of_getElem? (i := 2) rfl)
  have hinX11 : ∀ w ∈ u_ws RX11 TX11 10, w ∈ wsX11_markOrRefuse := fun w h => List.mem_cons_of_mem _ (List.mem_append_left _ (List.mem_append_left _ (List.mem_append_left _ (List.mem_append_right _ h))))
  refine lv_aload_n hx hb dX11_markOrRefuse_0 rfl (lv_at hl 0 rfl) ?_
  refine mt_getr (C := RX11) (T := TX11) (N := 10) hx hb hts hinX11 hown hI hH mt_T0 rfl 0 (by decide) kw0 rfl rfl dX11_markOrRefuse_1 ?_
  refine lv_iload_n hx hb dX11_markOrRefuse_4 rfl (lv_at hl 1 rfl) ?_
  refine lv_iload_n hx hb dX11_markOrRefuse_5 rfl (lv_at hl 2 rfl) ?_
  refine mt_b1I hf (fun r2 hg1 hf => ?_)
  refine mt_goi (mt_runV (i := 10) (As := [.int a1, .int a2]) (rest := []) ⟨hx, hb, hml, hown, hts⟩ hI hH (c_X4_refusalToMark l E 10 (by decide) a1 a2 M u _ hg1) (cwV 2 hts gX11_markOrRefuse_X4_refusalToMark rfl rfl rfl (by decide +kernel) ⟨Nat.le_of_ble_eq_true rfl, Nat.le_of_ble_eq_true rfl⟩) mt_T10 rfl rfl hl.1 rfl (Nat.le_of_ble_eq_true rfl) dX11_markOrRefuse_6 ⟨Nat.zero_le _, Nat.zero_le _⟩) hS (fun H locs hH hS => ?_)
  refine lv_istore (lv' := [(4, .int r2), (0, .ref (E.2.1 0)), (1, .int a1), (2, .int a2), (3, .int a3)]) hx hb dX11_markOrRefuse_9 hl (by decide) rfl (fun ls hl => ?_)
  refine lv_iload hx hb dX11_markOrRefuse_11 (lv_at hl 0 rfl) ?_
  refine lv_if_eq (tgt := 23) hx hb dX11_markOrRefuse_13 (by decide) (fun c3 => ?_) (fun c3 => ?_)
  · have hf := mt_ifT c3 hf
    refine lv_aload_n hx hb dX11_markOrRefuse_23 rfl (lv_at hl 1 rfl) ?_
    refine mt_getr (C := RX11) (T := TX11) (N := 10) hx hb hts hinX11 hown hI hH mt_T0 rfl 4 (by decide) kw1 rfl rfl dX11_markOrRefuse_24 ?_
    refine lv_aload_n hx hb dX11_markOrRefuse_27 rfl (lv_at hl 1 rfl) ?_
    refine mt_getr (C := RX11) (T := TX11) (N := 10) hx hb hts hinX11 hown hI hH mt_T0 rfl 0 (by decide) kw0 rfl rfl dX11_markOrRefuse_28 ?_
    refine mt_b1I hf (fun M5 hg4 hf => ?_)
    refine mt_gov (mt_runV (i := 43) (As := [.ref (E.2.1 10)]) (rest := []) ⟨hx, hb, hml, hown, hts⟩ hI hH (c_X3_keep l E 10 (by decide) M u _ hg4) (cwV 1 hts gX11_markOrRefuse_X3_keep rfl rfl rfl (by decide +kernel) ⟨Nat.le_of_ble_eq_true rfl, Nat.le_of_ble_eq_true rfl⟩) mt_T43 rfl rfl hl.1 rfl (Nat.le_of_ble_eq_true rfl) dX11_markOrRefuse_31 ⟨Nat.zero_le _, Nat.zero_le _⟩) hS (fun H locs hH hS => ?_)
    refine lv_aload_n hx hb dX11_markOrRefuse_34 rfl (lv_at hl 1 rfl) ?_
    refine mt_getr (C := RX11) (T := TX11) (N := 10) hx hb hts hinX11 hown hI hH mt_T0 rfl 0 (by decide) kw0 rfl rfl dX11_markOrRefuse_35 ?_
    refine lv_iload_n hx hb dX11_markOrRefuse_38 rfl (lv_at hl 2 rfl) ?_
    refine lv_iload_n hx hb dX11_markOrRefuse_39 rfl (lv_at hl 3 rfl) ?_
    refine lv_iload_n hx hb dX11_markOrRefuse_40 rfl (lv_at hl 4 rfl) ?_
    refine mt_b2I hf (fun r7 M8 hg6 hf => ?_)
    refine mt_goi (mt_runV (i := 10) (As := [.int a1, .int a2, .int a3]) (rest := []) ⟨hx, hb, hml, hown, hts⟩ hI hH (c_X4_markLine l E 10 (by decide) a1 a2 a3 M5 u _ _ hg6) (cwV 3 hts gX11_markOrRefuse_X4_markLine rfl rfl rfl (by decide +kernel) ⟨Nat.le_of_ble_eq_true rfl, Nat.le_of_ble_eq_true rfl⟩) mt_T10 rfl rfl hl.1 rfl (Nat.le_of_ble_eq_true rfl) dX11_markOrRefuse_41 ⟨Nat.zero_le _, Nat.zero_le _⟩) hS (fun H locs hH hS => ?_)
    obtain ⟨i1, i2⟩ := mt_so2 hf
    subst i1
    subst i2
    exact mt_iret hx hb hr hI hH hS hlocks dX11_markOrRefuse_44
  · have hf := mt_ifF c3 hf
    refine lv_aload_n hx hb dX11_markOrRefuse_16 rfl (lv_at hl 1 rfl) ?_
    refine lv_iload hx hb dX11_markOrRefuse_17 (lv_at hl 0 rfl) ?_
    refine mt_b2I hf (fun r10 M11 hg9 hf => ?_)
    refine mt_goi (mt_runV (i := 0) (As := [.int r2]) (rest := []) ⟨hx, hb, hml, hown, hts⟩ hI hH (c_X11_refuse l E r2 M u _ _ hg9) (cwV 1 hts gX11_markOrRefuse_X11_refuse rfl rfl rfl (by decide +kernel) ⟨Nat.le_of_ble_eq_true rfl, Nat.le_of_ble_eq_true rfl⟩) mt_T0 rfl rfl hl.1 rfl (Nat.le_of_ble_eq_true rfl) dX11_markOrRefuse_19 ⟨Nat.zero_le _, Nat.zero_le _⟩) hS (fun H locs hH hS => ?_)
    obtain ⟨i1, i2⟩ := mt_so2 hf
    subst i1
    subst i2
    exact mt_iret hx hb hr hI hH hS hlocks dX11_markOrRefuse_22
set_option maxHeartbeats 4000000 in
set_option maxRecDepth 100000 in
theorem c_X11_writes (l : Launch) (E : mt_E) (a1 : Int32) (a2 : Int32) (M : mt_M) (u : mt_U) (r : Int32) (M' : mt_M) (hf : f_X11_writes a1 a2 M = some (r, M')) : Met l yX11_writes wsX11_writes ({ frames := 5, cells := 0, slots := 0, locals := 114 } : Room) (mt_P E [.ref (E.2.1 0), .int a1, .int a2] M u) (mt_Qi E r M' u) 0 0 (mt_A E) := by
  refine Met.ofW (cc := cX11_writes) (maxL := 4) (ret := (some .int)) (by decide) rfl ?_
  intro p e s mid args below meth c0 s₁ B hml hv
  obtain ⟨rfl, hI, hH⟩ := hv
  have hx := B.exec
  have hb := B.bytes
  have hr := B.returns
  have hts := atoms_spec (ws := wsX11_writes) B.pre
  have hown : s.vm.findClass RX11 = some mid.cls := findClass_of_methodNamed B.named
  have hlocks := B.notSynchronized
  have hS : va_S (mt_A E) s.heap s.heap [] := va_S.rf
  have hl := lv_entry ([.ref (E.2.1 0), .int a1, .int a2]) (n := 4) (Nat.le_of_ble_eq_true rfl)
  rw [lg_entry_eq]
  generalize (lg_sl ([.ref (E.2.1 0), .int a1, .int a2]) ++ List.replicate (4 - (lg_sl ([.ref (E.2.1 0), .int a1, .int a2])).length) Slot.unset).toArray = ls at hl ⊢
  have hl : lv_has ls 4 [(0, .ref (E.2.1 0)), (1, .int a1), (2, .int a2)] := hl
  unfold f_X11_writes at hf
  have kw0 := hts (.fieldLink RX11 39 "MilkTwice" "house" "LMilkTwice$House;") (List.mem_of_getElem? (i := 1) rfl)
  have hinX11 : ∀ w ∈ u_ws RX11 TX11 10, w ∈ wsX11_writes := fun w h => List.mem_cons_of_mem _ (List.mem_append_left _ (List.mem_append_left _ (List.mem_append_left _ (List.mem_append_right _ h))))
  have hinX4 : ∀ w ∈ u_ws RX4 TX4 6, w ∈ wsX11_writes := fun w h => List.mem_cons_of_mem _ (List.mem_append_left _ (List.mem_append_left _ (List.mem_append_right _ h)))
  refine lv_aload_n hx hb dX11_writes_0 rfl (lv_at hl 0 rfl) ?_
  refine lv_iload_n hx hb dX11_writes_1 rfl (lv_at hl 1 rfl) ?_
  refine lv_iload_n hx hb dX11_writes_2 rfl (lv_at hl 2 rfl) ?_
  refine lv_bipush (v := 119) hx hb dX11_writes_3 (by decide) ?_
  refine mt_b2I hf (fun r2 M3 hg1 hf => ?_)
  refine mt_goi (mt_runV (i := 0) (As := [.int a1, .int a2, .int (119 : Int32)]) (rest := []) ⟨hx, hb, hml, hown, hts⟩ hI hH (c_X11_markOrRefuse l E a1 a2 (119 : Int32) M u _ _ hg1) (cwV 3 hts gX11_writes_X11_markOrRefuse rfl rfl rfl (by decide +kernel) ⟨Nat.le_of_ble_eq_true rfl, Nat.le_of_ble_eq_true rfl⟩) mt_T0 rfl rfl hl.1 rfl (Nat.le_of_ble_eq_true rfl) dX11_writes_5 ⟨Nat.zero_le _, Nat.zero_le _⟩) hS (fun H locs hH hS => ?_)
  refine lv_istore_n (lv' := [(3, .int r2), (0, .ref (E.2.1 0)), (1, .int a1), (2, .int a2)]) hx hb dX11_writes_8 rfl hl (by decide) rfl (fun ls hl => ?_)
  refine lv_iload_n hx hb dX11_writes_9 rfl (lv_at hl 0 rfl) ?_
  refine lv_if_eq (tgt := 17) hx hb dX11_writes_10 (by decide) (fun c4 => ?_) (fun c4 => ?_)
  · have hf := mt_ifT c4 hf
    refine lv_aload_n hx hb dX11_writes_17 rfl (lv_at hl 1 rfl) ?_
    refine mt_getr (C := RX11) (T := TX11) (N := 10) hx hb hts hinX11 hown hI hH mt_T0 rfl 0 (by decide) kw0 rfl rfl dX11_writes_18 ?_
    refine mt_getiN (C := RX4) (T := TX4) (N := 6) hx hb hts hinX4 hown hI hH mt_T10 rfl 3 (by decide) (List.mem_of_getElem? (i := 12) rfl) rfl rfl dX11_writes_21 ?_
    obtain ⟨i1, i2⟩ := mt_so2 hf
    subst i1
    subst i2
    exact mt_iret hx hb hr hI hH hS hlocks dX11_writes_24
  · have hf := mt_ifF c4 hf
    refine lv_iload_n hx hb dX11_writes_13 rfl (lv_at hl 0 rfl) ?_
    refine lv_goto (tgt := 24) hx hb dX11_writes_14 (by decide) ?_
    obtain ⟨i1, i2⟩ := mt_so2 hf
    subst i1
    subst i2
    exact mt_iret hx hb hr hI hH hS hlocks dX11_writes_24
set_option maxHeartbeats 4000000 in
set_option maxRecDepth 100000 in
theorem c_X11_ticks (l : Launch) (E : mt_E) (a1 : Int32) (a2 : Int32) (M : mt_M) (u : mt_U) (r : Int32) (M' : mt_M) (hf : f_X11_ticks a1 a2 M = some (r, M')) : Met l yX11_ticks wsX11_ticks ({ frames := 5, cells := 0, slots := 0, locals := 114 } : Room) (mt_P E [.ref (E.2.1 0), .int a1, .int a2] M u) (mt_Qi E r M' u) 0 0 (mt_A E) := by
  refine Met.ofW (cc := cX11_ticks) (maxL := 4) (ret := (some .int)) (by decide) rfl ?_
  intro p e s mid args below meth c0 s₁ B hml hv
  obtain ⟨rfl, hI, hH⟩ := hv
  have hx := B.exec
  have hb := B.bytes
  have hr := B.returns
  have hts := atoms_spec (ws := wsX11_ticks) B.pre
  have hown : s.vm.findClass RX11 = some mid.cls := findClass_of_methodNamed B.named
  have hlocks := B.notSynchronized
  have hS : va_S (mt_A E) s.heap s.heap [] := va_S.rf
  have hl := lv_entry ([.ref (E.2.1 0), .int a1, .int a2]) (n := 4) (Nat.le_of_ble_eq_true rfl)
  rw [lg_entry_eq]
  generalize (lg_sl ([.ref (E.2.1 0), .int a1, .int a2]) ++ List.replicate (4 - (lg_sl ([.ref (E.2.1 0), .int a1, .int a2])).length) Slot.unset).toArray = ls at hl ⊢
  have hl : lv_has ls 4 [(0, .ref (E.2.1 0)), (1, .int a1), (2, .int a2)] := hl
  unfold f_X11_ticks at hf
  have kw0 := hts (.fieldLink RX11 39 "MilkTwice" "house" "LMilkTwice$House;") (List.mem_of_getElem? (i := 1) rfl)
  have hinX11 : ∀ w ∈ u_ws RX11 TX11 10, w ∈ wsX11_ticks := fun w h => List.mem_cons_of_mem _ (List.mem_append_left _ (List.mem_append_left _ (List.mem_append_left _ (List.mem_append_right _ h))))
  have hinX4 : ∀ w ∈ u_ws RX4 TX4 6, w ∈ wsX11_ticks := fun w h => List.mem_cons_of_mem _ (List.mem_append_left _ (List.mem_append_left _ (List.mem_append_right _ h)))
  have hinX0 : ∀ w ∈ u_ws RX0 TX0 12, w ∈ wsX11_ticks := fun w h => List.mem_cons_of_mem _ (List.mem_append_left _ (List.mem_append_right _ h))
  refine lv_aload_n hx hb dX11_ticks_0 rfl (lv_at hl 0 rfl) ?_
  refine lv_iload_n hx hb dX11_ticks_1 rfl (lv_at hl 1 rfl) ?_
  refine lv_iload_n hx hb dX11_ticks_2 rfl (lv_at hl 2 rfl) ?_
  refine lv_bipush (v := 107) hx hb dX11_ticks_3 (by decide) ?_
  refine mt_b2I hf (fun r2 M3 hg1 hf => ?_)
  refine mt_goi (mt_runV (i := 0) (As := [.int a1, .int a2, .int (107 : Int32)]) (rest := []) ⟨hx, hb, hml, hown, hts⟩ hI hH (c_X11_markOrRefuse l E a1 a2 (107 : Int32) M u _ _ hg1) (cwV 3 hts gX11_ticks_X11_markOrRefuse rfl rfl rfl (by decide +kernel) ⟨Nat.le_of_ble_eq_true rfl, Nat.le_of_ble_eq_true rfl⟩) mt_T0 rfl rfl hl.1 rfl (Nat.le_of_ble_eq_true rfl) dX11_ticks_5 ⟨Nat.zero_le _, Nat.zero_le _⟩) hS (fun H locs hH hS => ?_)
  refine lv_istore_n (lv' := [(3, .int r2), (0, .ref (E.2.1 0)), (1, .int a1), (2, .int a2)]) hx hb dX11_ticks_8 rfl hl (by decide) rfl (fun ls hl => ?_)
  refine lv_iload_n hx hb dX11_ticks_9 rfl (lv_at hl 0 rfl) ?_
  refine lv_if_eq (tgt := 17) hx hb dX11_ticks_10 (by decide) (fun c4 => ?_) (fun c4 => ?_)
  · have hf := mt_ifT c4 hf
    refine lv_aload_n hx hb dX11_ticks_17 rfl (lv_at hl 1 rfl) ?_
    refine mt_getr (C := RX11) (T := TX11) (N := 10) hx hb hts hinX11 hown hI hH mt_T0 rfl 0 (by decide) kw0 rfl rfl dX11_ticks_18 ?_
    refine mt_getrN (C := RX4) (T := TX4) (N := 6) hx hb hts hinX4 hown hI hH mt_T10 rfl 0 (by decide) (List.mem_of_getElem? (i := 10) rfl) rfl rfl dX11_ticks_21 ?_
    refine mt_getiN (C := RX0) (T := TX0) (N := 12) hx hb hts hinX0 hown hI hH mt_T13 rfl 9 (by decide) (List.mem_of_getElem? (i := 3) rfl) rfl rfl dX11_ticks_24 ?_
    obtain ⟨i1, i2⟩ := mt_so2 hf
    subst i1
    subst i2
    exact mt_iret hx hb hr hI hH hS hlocks dX11_ticks_27
  · have hf := mt_ifF c4 hf
    refine lv_iload_n hx hb dX11_ticks_13 rfl (lv_at hl 0 rfl) ?_
    refine lv_goto (tgt := 27) hx hb dX11_ticks_14 (by decide) ?_
    obtain ⟨i1, i2⟩ := mt_so2 hf
    subst i1
    subst i2
    exact mt_iret hx hb hr hI hH hS hlocks dX11_ticks_27
set_option maxHeartbeats 4000000 in
set_option maxRecDepth 100000 in
theorem c_X11_strikes (l : Launch) (E : mt_E) (a1 : Int32) (a2 : Int32) (M : mt_M) (u : mt_U) (r : Int32) (M' : mt_M) (hf : f_X11_strikes a1 a2 M = some (r, M')) : Met l yX11_strikes wsX11_strikes ({ frames := 5, cells := 0, slots := 0, locals := 114 } : Room) (mt_P E [.ref (E.2.1 0), .int a1, .int a2] M u) (mt_Qi E r M' u) 0 0 (mt_A E) := by
  refine Met.ofW (cc := cX11_strikes) (maxL := 4) (ret := (some .int)) (by decide) rfl ?_
  intro p e s mid args below meth c0 s₁ B hml hv
  obtain ⟨rfl, hI, hH⟩ := hv
  have hx := B.exec
  have hb := B.bytes
  have hr := B.returns
  have hts := atoms_spec (ws := wsX11_strikes) B.pre
  have hown : s.vm.findClass RX11 = some mid.cls := findClass_of_methodNamed B.named
  have hlocks := B.notSynchronized
  have hS : va_S (mt_A E) s.heap s.heap [] := va_S.rf
  have hl := lv_entry ([.ref (E.2.1 0), .int a1, .int a2]) (n := 4) (Nat.le_of_ble_eq_true rfl)
  rw [lg_entry_eq]
  generalize (lg_sl ([.ref (E.2.1 0), .int a1, .int a2]) ++ List.replicate (4 - (lg_sl ([.ref (E.2.1 0), .int a1, .int a2])).length) Slot.unset).toArray = ls at hl ⊢
  have hl : lv_has ls 4 [(0, .ref (E.2.1 0)), (1, .int a1), (2, .int a2)] := hl
  unfold f_X11_strikes at hf
  have kw0 := hts (.fieldLink RX11 39 "MilkTwice" "house" "LMilkTwice$House;") (List.mem_of_getElem? (i := 1) rfl)
  have hinX11 : ∀ w ∈ u_ws RX11 TX11 10, w ∈ wsX11_strikes := fun w h => List.mem_cons_of_mem _ (List.mem_append_left _ (List.mem_append_left _ (List.mem_append_left _ (List.mem_append_right _ h))))
  have hinX4 : ∀ w ∈ u_ws RX4 TX4 6, w ∈ wsX11_strikes := fun w h => List.mem_cons_of_mem _ (List.mem_append_left _ (List.mem_append_left _ (List.mem_append_right _ h)))
  refine lv_aload_n hx hb dX11_strikes_0 rfl (lv_at hl 0 rfl) ?_
  refine lv_iload_n hx hb dX11_strikes_1 rfl (lv_at hl 1 rfl) ?_
  refine lv_iload_n hx hb dX11_strikes_2 rfl (lv_at hl 2 rfl) ?_
  refine lv_bipush (v := 120) hx hb dX11_strikes_3 (by decide) ?_
  refine mt_b2I hf (fun r2 M3 hg1 hf => ?_)
  refine mt_goi (mt_runV (i := 0) (As := [.int a1, .int a2, .int (120 : Int32)]) (rest := []) ⟨hx, hb, hml, hown, hts⟩ hI hH (c_X11_markOrRefuse l E a1 a2 (120 : Int32) M u _ _ hg1) (cwV 3 hts gX11_strikes_X11_markOrRefuse rfl rfl rfl (by decide +kernel) ⟨Nat.le_of_ble_eq_true rfl, Nat.le_of_ble_eq_true rfl⟩) mt_T0 rfl rfl hl.1 rfl (Nat.le_of_ble_eq_true rfl) dX11_strikes_5 ⟨Nat.zero_le _, Nat.zero_le _⟩) hS (fun H locs hH hS => ?_)
  refine lv_istore_n (lv' := [(3, .int r2), (0, .ref (E.2.1 0)), (1, .int a1), (2, .int a2)]) hx hb dX11_strikes_8 rfl hl (by decide) rfl (fun ls hl => ?_)
  refine lv_iload_n hx hb dX11_strikes_9 rfl (lv_at hl 0 rfl) ?_
  refine lv_if_eq (tgt := 17) hx hb dX11_strikes_10 (by decide) (fun c4 => ?_) (fun c4 => ?_)
  · have hf := mt_ifT c4 hf
    refine lv_aload_n hx hb dX11_strikes_17 rfl (lv_at hl 1 rfl) ?_
    refine mt_getr (C := RX11) (T := TX11) (N := 10) hx hb hts hinX11 hown hI hH mt_T0 rfl 0 (by decide) kw0 rfl rfl dX11_strikes_18 ?_
    refine mt_getiN (C := RX4) (T := TX4) (N := 6) hx hb hts hinX4 hown hI hH mt_T10 rfl 3 (by decide) (List.mem_of_getElem? (i := 12) rfl) rfl rfl dX11_strikes_21 ?_
    obtain ⟨i1, i2⟩ := mt_so2 hf
    subst i1
    subst i2
    exact mt_iret hx hb hr hI hH hS hlocks dX11_strikes_24
  · have hf := mt_ifF c4 hf
    refine lv_iload_n hx hb dX11_strikes_13 rfl (lv_at hl 0 rfl) ?_
    refine lv_goto (tgt := 24) hx hb dX11_strikes_14 (by decide) ?_
    obtain ⟨i1, i2⟩ := mt_so2 hf
    subst i1
    subst i2
    exact mt_iret hx hb hr hI hH hS hlocks dX11_strikes_24
set_option maxHeartbeats 4000000 in
set_option maxRecDepth 100000 in
theorem c_X11_rule (l : Launch) (E : mt_E) (a1 : Int32) (M : mt_M) (u : mt_U) (r : Int32) (M' : mt_M) (hf : f_X11_rule a1 M = some (r, M')) : Met l yX11_rule wsX11_rule ({ frames := 1, cells := 0, slots := 0, locals := 22 } : Room) (mt_P E [.ref (E.2.1 0), .int a1] M u) (mt_Qi E r M' u) 0 0 (mt_A E) := by
  refine Met.ofW (cc := cX11_rule) (maxL := 3) (ret := (some .int)) (by decide) rfl ?_
  intro p e s mid args below meth c0 s₁ B hml hv
  obtain ⟨rfl, hI, hH⟩ := hv
  have hx := B.exec
  have hb := B.bytes
  have hr := B.returns
  have hts := atoms_spec (ws := wsX11_rule) B.pre
  have hown : s.vm.findClass RX11 = some mid.cls := findClass_of_methodNamed B.named
  have hlocks := B.notSynchronized
  have hS : va_S (mt_A E) s.heap s.heap [] := va_S.rf
  have hl := lv_entry ([.ref (E.2.1 0), .int a1]) (n := 3) (Nat.le_of_ble_eq_true rfl)
  rw [lg_entry_eq]
  generalize (lg_sl ([.ref (E.2.1 0), .int a1]) ++ List.replicate (3 - (lg_sl ([.ref (E.2.1 0), .int a1])).length) Slot.unset).toArray = ls at hl ⊢
  have hl : lv_has ls 3 [(0, .ref (E.2.1 0)), (1, .int a1)] := hl
  unfold f_X11_rule at hf
  have kw0 := hts (.fieldLink RX11 52 "MilkTwice" "history" "LMilkTwice$History;") (List.mem_of_getElem? (i := 1) rfl)
  have kw1 := hts (.fieldLink RX11 39 "MilkTwice" "house" "LMilkTwice$House;") (List.mem_of_getElem? (i := 2) rfl)
  have hinX11 : ∀ w ∈ u_ws RX11 TX11 10, w ∈ wsX11_rule := fun w h => List.mem_cons_of_mem _ (List.mem_append_left _ (List.mem_append_left _ (List.mem_append_right _ h)))
  have hinX4 : ∀ w ∈ u_ws RX4 TX4 6, w ∈ wsX11_rule := fun w h => List.mem_cons_of_mem _ (List.mem_append_left _ (List.mem_append_right _ h))
  refine lv_iload_n hx hb dX11_rule_0 rfl (lv_at hl 1 rfl) ?_
  refine lv_iconst (v := 3) hx hb dX11_rule_1 (by decide) ?_
  refine mt_b1I hf (fun r2 hg1 hf => ?_)
  refine mt_goi (mt_runS (As := [.int a1, .int (3 : Int32)]) (rest := []) ⟨hx, hb, hml, hown, hts⟩ hI hH (c_X11_isOneOf l E a1 (3 : Int32) M u _ hg1) (va_cwS 2 hts gX11_rule_X11_isOneOf rfl rfl rfl (by decide +kernel) ⟨Nat.le_of_ble_eq_true rfl, Nat.le_of_ble_eq_true rfl⟩) rfl hl.1 rfl (Nat.le_of_ble_eq_true rfl) dX11_rule_2 ⟨Nat.zero_le _, Nat.zero_le _⟩) hS (fun H locs hH hS => ?_)
  refine lv_if_ne (tgt := 15) hx hb dX11_rule_5 (by decide) (fun c3 => ?_) (fun c3 => ?_)
  · have hf := mt_ifF c3 hf
    refine lv_aload_n hx hb dX11_rule_15 rfl (lv_at hl 0 rfl) ?_
    refine mt_getr (C := RX11) (T := TX11) (N := 10) hx hb hts hinX11 hown hI hH mt_T0 rfl 4 (by decide) kw0 rfl rfl dX11_rule_16 ?_
    refine mt_b1I hf (fun M5 hg4 hf => ?_)
    refine mt_gov (mt_runV (i := 43) (As := []) (rest := []) ⟨hx, hb, hml, hown, hts⟩ hI hH (c_X3_forget l E M u _ hg4) (cwV 0 hts gX11_rule_X3_forget rfl rfl rfl (by decide +kernel) ⟨Nat.le_of_ble_eq_true rfl, Nat.le_of_ble_eq_true rfl⟩) mt_T43 rfl rfl hl.1 rfl (Nat.le_of_ble_eq_true rfl) dX11_rule_19 ⟨Nat.zero_le _, Nat.zero_le _⟩) hS (fun H locs hH hS => ?_)
    refine lv_aload_n hx hb dX11_rule_22 rfl (lv_at hl 0 rfl) ?_
    refine mt_getr (C := RX11) (T := TX11) (N := 10) hx hb hts hinX11 hown hI hH mt_T0 rfl 0 (by decide) kw1 rfl rfl dX11_rule_23 ?_
    refine mt_getiN (C := RX4) (T := TX4) (N := 6) hx hb hts hinX4 hown hI hH mt_T10 rfl 5 (by decide) (List.mem_of_getElem? (i := 17) rfl) rfl rfl dX11_rule_26 ?_
    refine mt_lti hf (fun x6 ex6 hf => ?_)
    refine lv_istore_n (lv' := [(2, .int x6), (0, .ref (E.2.1 0)), (1, .int a1)]) hx hb dX11_rule_29 rfl hl (by decide) rfl (fun ls hl => ?_)
    refine lv_aload_n hx hb dX11_rule_30 rfl (lv_at hl 1 rfl) ?_
    refine mt_getr (C := RX11) (T := TX11) (N := 10) hx hb hts hinX11 hown hI hH mt_T0 rfl 0 (by decide) kw1 rfl rfl dX11_rule_31 ?_
    refine lv_iload_n hx hb dX11_rule_34 rfl (lv_at hl 2 rfl) ?_
    refine mt_putiN (ty := .int) (C := RX4) (T := TX4) (N := 6) hx hb hts hinX4 tyX4 tyX4_ok nmX4 hown hI hH hS mt_T10 rfl 5 (by decide) (List.mem_of_getElem? (i := 17) rfl) rfl rfl (by decide +kernel) rfl rfl rfl dX11_rule_35 (fun H locs hH hS => ?_)
    refine mt_ltI hf (fun M7 eM7 hf => ?_)
    rw [← eM7] at hH
    refine lv_iload_n hx hb dX11_rule_38 rfl (lv_at hl 0 rfl) ?_
    obtain ⟨i1, i2⟩ := mt_so2 hf
    subst i1
    subst i2
    exact mt_iret hx hb hr hI hH hS hlocks dX11_rule_39
  · have hf := mt_ifT c3 hf
    refine lv_aload_n hx hb dX11_rule_8 rfl (lv_at hl 0 rfl) ?_
    refine lv_bipush (v := (-2)) hx hb dX11_rule_9 (by decide) ?_
    refine mt_b2I hf (fun r9 M10 hg8 hf => ?_)
    refine mt_goi (mt_runV (i := 0) (As := [.int (-2 : Int32)]) (rest := []) ⟨hx, hb, hml, hown, hts⟩ hI hH (c_X11_refuse l E (-2 : Int32) M u _ _ hg8) (cwV 1 hts gX11_rule_X11_refuse rfl rfl rfl (by decide +kernel) ⟨Nat.le_of_ble_eq_true rfl, Nat.le_of_ble_eq_true rfl⟩) mt_T0 rfl rfl hl.1 rfl (Nat.le_of_ble_eq_true rfl) dX11_rule_11 ⟨Nat.zero_le _, Nat.zero_le _⟩) hS (fun H locs hH hS => ?_)
    obtain ⟨i1, i2⟩ := mt_so2 hf
    subst i1
    subst i2
    exact mt_iret hx hb hr hI hH hS hlocks dX11_rule_14
set_option maxHeartbeats 4000000 in
set_option maxRecDepth 100000 in
theorem c_X11_join (l : Launch) (E : mt_E)  (M : mt_M) (u : mt_U) (r : Int32) (M' : mt_M) (hf : f_X11_join M = some (r, M')) : Met l yX11_join wsX11_join ({ frames := 4, cells := 0, slots := 0, locals := 91 } : Room) (mt_P E [.ref (E.2.1 0)] M u) (mt_Qi E r M' u) 0 0 (mt_A E) := by
  refine Met.ofW (cc := cX11_join) (maxL := 1) (ret := (some .int)) (by decide) rfl ?_
  intro p e s mid args below meth c0 s₁ B hml hv
  obtain ⟨rfl, hI, hH⟩ := hv
  have hx := B.exec
  have hb := B.bytes
  have hr := B.returns
  have hts := atoms_spec (ws := wsX11_join) B.pre
  have hown : s.vm.findClass RX11 = some mid.cls := findClass_of_methodNamed B.named
  have hlocks := B.notSynchronized
  have hS : va_S (mt_A E) s.heap s.heap [] := va_S.rf
  have hl := lv_entry ([.ref (E.2.1 0)]) (n := 1) (Nat.le_of_ble_eq_true rfl)
  rw [lg_entry_eq]
  generalize (lg_sl ([.ref (E.2.1 0)]) ++ List.replicate (1 - (lg_sl ([.ref (E.2.1 0)])).length) Slot.unset).toArray = ls at hl ⊢
  have hl : lv_has ls 1 [(0, .ref (E.2.1 0))] := hl
  unfold f_X11_join at hf
  have kw0 := hts (.fieldLink RX11 52 "MilkTwice" "history" "LMilkTwice$History;") (List.mem_of_getElem? (i := 1) rfl)
  have kw1 := hts (.fieldLink RX11 39 "MilkTwice" "house" "LMilkTwice$House;") (List.mem_of_getElem? (i := 2) rfl)
  have hinX11 : ∀ w ∈ u_ws RX11 TX11 10, w ∈ wsX11_join := fun w h => List.mem_cons_of_mem _ (List.mem_append_left _ (List.mem_append_left _ (List.mem_append_left _ (List.mem_append_right _ h))))
  refine lv_aload_n hx hb dX11_join_0 rfl (lv_at hl 0 rfl) ?_
  refine mt_getr (C := RX11) (T := TX11) (N := 10) hx hb hts hinX11 hown hI hH mt_T0 rfl 4 (by decide) kw0 rfl rfl dX11_join_1 ?_
  refine lv_aload_n hx hb dX11_join_4 rfl (lv_at hl 0 rfl) ?_
  refine mt_getr (C := RX11) (T := TX11) (N := 10) hx hb hts hinX11 hown hI hH mt_T0 rfl 0 (by decide) kw1 rfl rfl dX11_join_5 ?_
  refine mt_b1I hf (fun M2 hg1 hf => ?_)
  refine mt_gov (mt_runV (i := 43) (As := [.ref (E.2.1 10)]) (rest := []) ⟨hx, hb, hml, hown, hts⟩ hI hH (c_X3_keep l E 10 (by decide) M u _ hg1) (cwV 1 hts gX11_join_X3_keep rfl rfl rfl (by decide +kernel) ⟨Nat.le_of_ble_eq_true rfl, Nat.le_of_ble_eq_true rfl⟩) mt_T43 rfl rfl hl.1 rfl (Nat.le_of_ble_eq_true rfl) dX11_join_8 ⟨Nat.zero_le _, Nat.zero_le _⟩) hS (fun H locs hH hS => ?_)
  refine lv_aload_n hx hb dX11_join_11 rfl (lv_at hl 0 rfl) ?_
  refine mt_getr (C := RX11) (T := TX11) (N := 10) hx hb hts hinX11 hown hI hH mt_T0 rfl 0 (by decide) kw1 rfl rfl dX11_join_12 ?_
  refine mt_b2I hf (fun r4 M5 hg3 hf => ?_)
  refine mt_goi (mt_runV (i := 10) (As := []) (rest := []) ⟨hx, hb, hml, hown, hts⟩ hI hH (c_X4_joinLists l E 10 (by decide) M2 u _ _ hg3) (cwV 0 hts gX11_join_X4_joinLists rfl rfl rfl (by decide +kernel) ⟨Nat.le_of_ble_eq_true rfl, Nat.le_of_ble_eq_true rfl⟩) mt_T10 rfl rfl hl.1 rfl (Nat.le_of_ble_eq_true rfl) dX11_join_15 ⟨Nat.zero_le _, Nat.zero_le _⟩) hS (fun H locs hH hS => ?_)
  obtain ⟨i1, i2⟩ := mt_so2 hf
  subst i1
  subst i2
  exact mt_iret hx hb hr hI hH hS hlocks dX11_join_18
set_option maxHeartbeats 4000000 in
set_option maxRecDepth 100000 in
theorem c_X11_day (l : Launch) (E : mt_E)  (M : mt_M) (u : mt_U) (r : Int32) (M' : mt_M) (hf : f_X11_day M = some (r, M')) : Met l yX11_day wsX11_day ({ frames := 4, cells := 0, slots := 0, locals := 91 } : Room) (mt_P E [.ref (E.2.1 0)] M u) (mt_Qi E r M' u) 0 0 (mt_A E) := by
  refine Met.ofW (cc := cX11_day) (maxL := 1) (ret := (some .int)) (by decide) rfl ?_
  intro p e s mid args below meth c0 s₁ B hml hv
  obtain ⟨rfl, hI, hH⟩ := hv
  have hx := B.exec
  have hb := B.bytes
  have hr := B.returns
  have hts := atoms_spec (ws := wsX11_day) B.pre
  have hown : s.vm.findClass RX11 = some mid.cls := findClass_of_methodNamed B.named
  have hlocks := B.notSynchronized
  have hS : va_S (mt_A E) s.heap s.heap [] := va_S.rf
  have hl := lv_entry ([.ref (E.2.1 0)]) (n := 1) (Nat.le_of_ble_eq_true rfl)
  rw [lg_entry_eq]
  generalize (lg_sl ([.ref (E.2.1 0)]) ++ List.replicate (1 - (lg_sl ([.ref (E.2.1 0)])).length) Slot.unset).toArray = ls at hl ⊢
  have hl : lv_has ls 1 [(0, .ref (E.2.1 0))] := hl
  unfold f_X11_day at hf
  have kw0 := hts (.fieldLink RX11 39 "MilkTwice" "house" "LMilkTwice$House;") (List.mem_of_getElem? (i := 1) rfl)
  have kw1 := hts (.fieldLink RX11 52 "MilkTwice" "history" "LMilkTwice$History;") (List.mem_of_getElem? (i := 2) rfl)
  have hinX11 : ∀ w ∈ u_ws RX11 TX11 10, w ∈ wsX11_day := fun w h => List.mem_cons_of_mem _ (List.mem_append_left _ (List.mem_append_left _ (List.mem_append_left _ (List.mem_append_right _ h))))
  have hinX4 : ∀ w ∈ u_ws RX4 TX4 6, w ∈ wsX11_day := fun w h => List.mem_cons_of_mem _ (List.mem_append_left _ (List.mem_append_left _ (List.mem_append_right _ h)))
  refine lv_aload_n hx hb dX11_day_0 rfl (lv_at hl 0 rfl) ?_
  refine mt_getr (C := RX11) (T := TX11) (N := 10) hx hb hts hinX11 hown hI hH mt_T0 rfl 0 (by decide) kw0 rfl rfl dX11_day_1 ?_
  refine mt_getiN (C := RX4) (T := TX4) (N := 6) hx hb hts hinX4 hown hI hH mt_T10 rfl 4 (by decide) (List.mem_of_getElem? (i := 14) rfl) rfl rfl dX11_day_4 ?_
  refine lv_sipush (v := 999) hx hb dX11_day_7 (by decide) ?_
  refine lv_icmp_lt (tgt := 20) hx hb dX11_day_10 (by decide) (fun c1 => ?_) (fun c1 => ?_)
  · have hf := mt_ifT c1 hf
    refine lv_aload_n hx hb dX11_day_20 rfl (lv_at hl 0 rfl) ?_
    refine mt_getr (C := RX11) (T := TX11) (N := 10) hx hb hts hinX11 hown hI hH mt_T0 rfl 4 (by decide) kw1 rfl rfl dX11_day_21 ?_
    refine lv_aload_n hx hb dX11_day_24 rfl (lv_at hl 0 rfl) ?_
    refine mt_getr (C := RX11) (T := TX11) (N := 10) hx hb hts hinX11 hown hI hH mt_T0 rfl 0 (by decide) kw0 rfl rfl dX11_day_25 ?_
    refine mt_b1I hf (fun M3 hg2 hf => ?_)
    refine mt_gov (mt_runV (i := 43) (As := [.ref (E.2.1 10)]) (rest := []) ⟨hx, hb, hml, hown, hts⟩ hI hH (c_X3_keep l E 10 (by decide) M u _ hg2) (cwV 1 hts gX11_day_X3_keep rfl rfl rfl (by decide +kernel) ⟨Nat.le_of_ble_eq_true rfl, Nat.le_of_ble_eq_true rfl⟩) mt_T43 rfl rfl hl.1 rfl (Nat.le_of_ble_eq_true rfl) dX11_day_28 ⟨Nat.zero_le _, Nat.zero_le _⟩) hS (fun H locs hH hS => ?_)
    refine lv_aload_n hx hb dX11_day_31 rfl (lv_at hl 0 rfl) ?_
    refine mt_getr (C := RX11) (T := TX11) (N := 10) hx hb hts hinX11 hown hI hH mt_T0 rfl 0 (by decide) kw0 rfl rfl dX11_day_32 ?_
    refine lv_iconst (v := 1) hx hb dX11_day_35 (by decide) ?_
    refine mt_b2I hf (fun r5 M6 hg4 hf => ?_)
    refine mt_goi (mt_runV (i := 10) (As := [.int (1 : Int32)]) (rest := []) ⟨hx, hb, hml, hown, hts⟩ hI hH (c_X4_liveDays l E 10 (by decide) (1 : Int32) M3 u _ _ hg4) (cwV 1 hts gX11_day_X4_liveDays rfl rfl rfl (by decide +kernel) ⟨Nat.le_of_ble_eq_true rfl, Nat.le_of_ble_eq_true rfl⟩) mt_T10 rfl rfl hl.1 rfl (Nat.le_of_ble_eq_true rfl) dX11_day_36 ⟨Nat.zero_le _, Nat.zero_le _⟩) hS (fun H locs hH hS => ?_)
    obtain ⟨i1, i2⟩ := mt_so2 hf
    subst i1
    subst i2
    exact mt_iret hx hb hr hI hH hS hlocks dX11_day_39
  · have hf := mt_ifF c1 hf
    refine lv_aload_n hx hb dX11_day_13 rfl (lv_at hl 0 rfl) ?_
    refine lv_bipush (v := (-6)) hx hb dX11_day_14 (by decide) ?_
    refine mt_b2I hf (fun r8 M9 hg7 hf => ?_)
    refine mt_goi (mt_runV (i := 0) (As := [.int (-6 : Int32)]) (rest := []) ⟨hx, hb, hml, hown, hts⟩ hI hH (c_X11_refuse l E (-6 : Int32) M u _ _ hg7) (cwV 1 hts gX11_day_X11_refuse rfl rfl rfl (by decide +kernel) ⟨Nat.le_of_ble_eq_true rfl, Nat.le_of_ble_eq_true rfl⟩) mt_T0 rfl rfl hl.1 rfl (Nat.le_of_ble_eq_true rfl) dX11_day_16 ⟨Nat.zero_le _, Nat.zero_le _⟩) hS (fun H locs hH hS => ?_)
    obtain ⟨i1, i2⟩ := mt_so2 hf
    subst i1
    subst i2
    exact mt_iret hx hb hr hI hH hS hlocks dX11_day_19
set_option maxHeartbeats 4000000 in
set_option maxRecDepth 100000 in
theorem c_X11_back (l : Launch) (E : mt_E)  (M : mt_M) (u : mt_U) (r : Int32) (M' : mt_M) (hf : f_X11_back M = some (r, M')) : Met l yX11_back wsX11_back ({ frames := 4, cells := 0, slots := 0, locals := 89 } : Room) (mt_P E [.ref (E.2.1 0)] M u) (mt_Qi E r M' u) 0 0 (mt_A E) := by
  refine Met.ofW (cc := cX11_back) (maxL := 1) (ret := (some .int)) (by decide) rfl ?_
  intro p e s mid args below meth c0 s₁ B hml hv
  obtain ⟨rfl, hI, hH⟩ := hv
  have hx := B.exec
  have hb := B.bytes
  have hr := B.returns
  have hts := atoms_spec (ws := wsX11_back) B.pre
  have hown : s.vm.findClass RX11 = some mid.cls := findClass_of_methodNamed B.named
  have hlocks := B.notSynchronized
  have hS : va_S (mt_A E) s.heap s.heap [] := va_S.rf
  have hl := lv_entry ([.ref (E.2.1 0)]) (n := 1) (Nat.le_of_ble_eq_true rfl)
  rw [lg_entry_eq]
  generalize (lg_sl ([.ref (E.2.1 0)]) ++ List.replicate (1 - (lg_sl ([.ref (E.2.1 0)])).length) Slot.unset).toArray = ls at hl ⊢
  have hl : lv_has ls 1 [(0, .ref (E.2.1 0))] := hl
  unfold f_X11_back at hf
  have kw0 := hts (.fieldLink RX11 52 "MilkTwice" "history" "LMilkTwice$History;") (List.mem_of_getElem? (i := 1) rfl)
  have kw1 := hts (.fieldLink RX11 39 "MilkTwice" "house" "LMilkTwice$House;") (List.mem_of_getElem? (i := 2) rfl)
  have hinX11 : ∀ w ∈ u_ws RX11 TX11 10, w ∈ wsX11_back := fun w h => List.mem_cons_of_mem _ (List.mem_append_left _ (List.mem_append_left _ (List.mem_append_left _ (List.mem_append_right _ h))))
  have hinX3 : ∀ w ∈ u_ws RX3 TX3 3, w ∈ wsX11_back := fun w h => List.mem_cons_of_mem _ (List.mem_append_left _ (List.mem_append_left _ (List.mem_append_right _ h)))
  refine lv_aload_n hx hb dX11_back_0 rfl (lv_at hl 0 rfl) ?_
  refine mt_getr (C := RX11) (T := TX11) (N := 10) hx hb hts hinX11 hown hI hH mt_T0 rfl 4 (by decide) kw0 rfl rfl dX11_back_1 ?_
  refine mt_getiN (C := RX3) (T := TX3) (N := 3) hx hb hts hinX3 hown hI hH mt_T43 rfl 2 (by decide) (List.mem_of_getElem? (i := 18) rfl) rfl rfl dX11_back_4 ?_
  refine lv_if_ne (tgt := 19) hx hb dX11_back_7 (by decide) (fun c1 => ?_) (fun c1 => ?_)
  · have hf := mt_ifF c1 hf
    refine lv_aload_n hx hb dX11_back_19 rfl (lv_at hl 0 rfl) ?_
    refine mt_getr (C := RX11) (T := TX11) (N := 10) hx hb hts hinX11 hown hI hH mt_T0 rfl 4 (by decide) kw0 rfl rfl dX11_back_20 ?_
    refine lv_aload_n hx hb dX11_back_23 rfl (lv_at hl 0 rfl) ?_
    refine mt_getr (C := RX11) (T := TX11) (N := 10) hx hb hts hinX11 hown hI hH mt_T0 rfl 0 (by decide) kw1 rfl rfl dX11_back_24 ?_
    refine mt_b2I hf (fun r3 M4 hg2 hf => ?_)
    refine mt_goi (mt_runV (i := 43) (As := [.ref (E.2.1 10)]) (rest := []) ⟨hx, hb, hml, hown, hts⟩ hI hH (c_X3_takeBack l E 10 (by decide) M u _ _ hg2) (cwV 1 hts gX11_back_X3_takeBack rfl rfl rfl (by decide +kernel) ⟨Nat.le_of_ble_eq_true rfl, Nat.le_of_ble_eq_true rfl⟩) mt_T43 rfl rfl hl.1 rfl (Nat.le_of_ble_eq_true rfl) dX11_back_27 ⟨Nat.zero_le _, Nat.zero_le _⟩) hS (fun H locs hH hS => ?_)
    obtain ⟨i1, i2⟩ := mt_so2 hf
    subst i1
    subst i2
    exact mt_iret hx hb hr hI hH hS hlocks dX11_back_30
  · have hf := mt_ifT c1 hf
    refine lv_aload_n hx hb dX11_back_10 rfl (lv_at hl 0 rfl) ?_
    refine lv_bipush (v := (-3)) hx hb dX11_back_11 (by decide) ?_
    refine mt_b2I hf (fun r6 M7 hg5 hf => ?_)
    refine mt_goi (mt_runV (i := 0) (As := [.int (-3 : Int32)]) (rest := []) ⟨hx, hb, hml, hown, hts⟩ hI hH (c_X11_refuse l E (-3 : Int32) M u _ _ hg5) (cwV 1 hts gX11_back_X11_refuse rfl rfl rfl (by decide +kernel) ⟨Nat.le_of_ble_eq_true rfl, Nat.le_of_ble_eq_true rfl⟩) mt_T0 rfl rfl hl.1 rfl (Nat.le_of_ble_eq_true rfl) dX11_back_13 ⟨Nat.zero_le _, Nat.zero_le _⟩) hS (fun H locs hH hS => ?_)
    refine lv_goto (tgt := 30) hx hb dX11_back_16 (by decide) ?_
    obtain ⟨i1, i2⟩ := mt_so2 hf
    subst i1
    subst i2
    exact mt_iret hx hb hr hI hH hS hlocks dX11_back_30
set_option maxHeartbeats 4000000 in
set_option maxRecDepth 100000 in
theorem c_X11_apart (l : Launch) (E : mt_E)  (M : mt_M) (u : mt_U) (r : Int32) (hf : f_X11_apart M = some (r)) : Met l yX11_apart wsX11_apart ({ frames := 2, cells := 0, slots := 0, locals := 42 } : Room) (mt_P E [.ref (E.2.1 0)] M u) (mt_Qi E r M u) 0 0 (mt_A E) := by
  refine Met.ofW (cc := cX11_apart) (maxL := 1) (ret := (some .int)) (by decide) rfl ?_
  intro p e s mid args below meth c0 s₁ B hml hv
  obtain ⟨rfl, hI, hH⟩ := hv
  have hx := B.exec
  have hb := B.bytes
  have hr := B.returns
  have hts := atoms_spec (ws := wsX11_apart) B.pre
  have hown : s.vm.findClass RX11 = some mid.cls := findClass_of_methodNamed B.named
  have hlocks := B.notSynchronized
  have hS : va_S (mt_A E) s.heap s.heap [] := va_S.rf
  have hl := lv_entry ([.ref (E.2.1 0)]) (n := 1) (Nat.le_of_ble_eq_true rfl)
  rw [lg_entry_eq]
  generalize (lg_sl ([.ref (E.2.1 0)]) ++ List.replicate (1 - (lg_sl ([.ref (E.2.1 0)])).length) Slot.unset).toArray = ls at hl ⊢
  have hl : lv_has ls 1 [(0, .ref (E.2.1 0))] := hl
  unfold f_X11_apart at hf
  have kw0 := hts (.fieldLink RX11 39 "MilkTwice" "house" "LMilkTwice$House;") (List.mem_of_getElem? (i := 1) rfl)
  have hinX11 : ∀ w ∈ u_ws RX11 TX11 10, w ∈ wsX11_apart := fun w h => List.mem_cons_of_mem _ (List.mem_append_left _ (List.mem_append_right _ h))
  refine lv_aload_n hx hb dX11_apart_0 rfl (lv_at hl 0 rfl) ?_
  refine mt_getr (C := RX11) (T := TX11) (N := 10) hx hb hts hinX11 hown hI hH mt_T0 rfl 0 (by decide) kw0 rfl rfl dX11_apart_1 ?_
  refine lv_iconst (v := 0) hx hb dX11_apart_4 (by decide) ?_
  refine mt_b1I hf (fun r2 hg1 hf => ?_)
  refine mt_goi (mt_runV (i := 10) (As := [.int (0 : Int32)]) (rest := []) ⟨hx, hb, hml, hown, hts⟩ hI hH (c_X4_wantedBy l E 10 (by decide) (0 : Int32) M u _ hg1) (cwV 1 hts gX11_apart_X4_wantedBy rfl rfl rfl (by decide +kernel) ⟨Nat.le_of_ble_eq_true rfl, Nat.le_of_ble_eq_true rfl⟩) mt_T10 rfl rfl hl.1 rfl (Nat.le_of_ble_eq_true rfl) dX11_apart_5 ⟨Nat.zero_le _, Nat.zero_le _⟩) hS (fun H locs hH hS => ?_)
  refine lv_aload_n hx hb dX11_apart_8 rfl (lv_at hl 0 rfl) ?_
  refine mt_getr (C := RX11) (T := TX11) (N := 10) hx hb hts hinX11 hown hI hH mt_T0 rfl 0 (by decide) kw0 rfl rfl dX11_apart_9 ?_
  refine lv_iconst (v := 1) hx hb dX11_apart_12 (by decide) ?_
  refine mt_b1I hf (fun r4 hg3 hf => ?_)
  refine mt_goi (mt_runV (i := 10) (As := [.int (1 : Int32)]) (rest := [.int r2]) ⟨hx, hb, hml, hown, hts⟩ hI hH (c_X4_wantedBy l E 10 (by decide) (1 : Int32) M u _ hg3) (cwV 1 hts gX11_apart_X4_wantedBy rfl rfl rfl (by decide +kernel) ⟨Nat.le_of_ble_eq_true rfl, Nat.le_of_ble_eq_true rfl⟩) mt_T10 rfl rfl hl.1 rfl (Nat.le_of_ble_eq_true rfl) dX11_apart_13 ⟨Nat.zero_le _, Nat.zero_le _⟩) hS (fun H locs hH hS => ?_)
  refine lv_ixor hx hb dX11_apart_16 ?_
  have i1 := mt_so1 hf
  subst i1
  exact mt_iret hx hb hr hI hH hS hlocks dX11_apart_17
set_option maxHeartbeats 4000000 in
set_option maxRecDepth 100000 in
theorem c_X11_joined (l : Launch) (E : mt_E) (a1 : Int32) (a2 : Int32) (M : mt_M) (u : mt_U) (r : Int32) (M' : mt_M) (hf : f_X11_joined a1 a2 M = some (r, M')) : Met l yX11_joined wsX11_joined ({ frames := 4, cells := 0, slots := 0, locals := 88 } : Room) (mt_P E [.ref (E.2.1 0), .int a1, .int a2] M u) (mt_Qi E r M' u) 0 0 (mt_A E) := by
  refine Met.ofW (cc := cX11_joined) (maxL := 3) (ret := (some .int)) (by decide) rfl ?_
  intro p e s mid args below meth c0 s₁ B hml hv
  obtain ⟨rfl, hI, hH⟩ := hv
  have hx := B.exec
  have hb := B.bytes
  have hr := B.returns
  have hts := atoms_spec (ws := wsX11_joined) B.pre
  have hown : s.vm.findClass RX11 = some mid.cls := findClass_of_methodNamed B.named
  have hlocks := B.notSynchronized
  have hS : va_S (mt_A E) s.heap s.heap [] := va_S.rf
  have hl := lv_entry ([.ref (E.2.1 0), .int a1, .int a2]) (n := 3) (Nat.le_of_ble_eq_true rfl)
  rw [lg_entry_eq]
  generalize (lg_sl ([.ref (E.2.1 0), .int a1, .int a2]) ++ List.replicate (3 - (lg_sl ([.ref (E.2.1 0), .int a1, .int a2])).length) Slot.unset).toArray = ls at hl ⊢
  have hl : lv_has ls 3 [(0, .ref (E.2.1 0)), (1, .int a1), (2, .int a2)] := hl
  unfold f_X11_joined at hf
  have kw0 := hts (.fieldLink RX11 39 "MilkTwice" "house" "LMilkTwice$House;") (List.mem_of_getElem? (i := 1) rfl)
  have hinX11 : ∀ w ∈ u_ws RX11 TX11 10, w ∈ wsX11_joined := fun w h => List.mem_cons_of_mem _ (List.mem_append_left _ (List.mem_append_left _ (List.mem_append_right _ h)))
  refine lv_iload_n hx hb dX11_joined_0 rfl (lv_at hl 1 rfl) ?_
  refine lv_iconst (v := 3) hx hb dX11_joined_1 (by decide) ?_
  refine mt_b1I hf (fun r2 hg1 hf => ?_)
  refine mt_goi (mt_runS (As := [.int a1, .int (3 : Int32)]) (rest := []) ⟨hx, hb, hml, hown, hts⟩ hI hH (c_X11_isOneOf l E a1 (3 : Int32) M u _ hg1) (va_cwS 2 hts gX11_joined_X11_isOneOf rfl rfl rfl (by decide +kernel) ⟨Nat.le_of_ble_eq_true rfl, Nat.le_of_ble_eq_true rfl⟩) rfl hl.1 rfl (Nat.le_of_ble_eq_true rfl) dX11_joined_2 ⟨Nat.zero_le _, Nat.zero_le _⟩) hS (fun H locs hH hS => ?_)
  refine mt_jn0 hf (∀ (H : Heap) (locs : List Loc) (ls : Array Slot), mt_H E M u H → va_S (mt_A E) s.heap H locs → lv_has ls 3 [(0, .ref (E.2.1 0))] → W p l e (headSpec wsX11_joined ({ frames := 4, cells := 0, slots := 0, locals := 88 } : Room)).room s mid (([.ref (E.2.1 0), .int a1, .int a2] : List Value).toArray) below meth c0 H locs 0 0 (MQ below (mt_Qi E r M' u) (([.ref (E.2.1 0), .int a1, .int a2] : List Value).toArray) s 0 0 (mt_A E)) (F0 mid 16 ls [])) ?_ ?_
  · intro hf H locs ls hH hS hl
    refine lv_aload_n hx hb dX11_joined_16 rfl (lv_at hl 0 rfl) ?_
    refine lv_bipush (v := (-2)) hx hb dX11_joined_17 (by decide) ?_
    refine mt_b2I hf (fun r6 M7 hg5 hf => ?_)
    refine mt_goi (mt_runV (i := 0) (As := [.int (-2 : Int32)]) (rest := []) ⟨hx, hb, hml, hown, hts⟩ hI hH (c_X11_refuse l E (-2 : Int32) M u _ _ hg5) (cwV 1 hts gX11_joined_X11_refuse rfl rfl rfl (by decide +kernel) ⟨Nat.le_of_ble_eq_true rfl, Nat.le_of_ble_eq_true rfl⟩) mt_T0 rfl rfl hl.1 rfl (Nat.le_of_ble_eq_true rfl) dX11_joined_19 ⟨Nat.zero_le _, Nat.zero_le _⟩) hS (fun H locs hH hS => ?_)
    obtain ⟨i1, i2⟩ := mt_so2 hf
    subst i1
    subst i2
    exact mt_iret hx hb hr hI hH hS hlocks dX11_joined_22
  · intro j3 hj4 hf
    refine lv_if_eq (tgt := 16) hx hb dX11_joined_5 (by decide) (fun c8 => ?_) (fun c8 => ?_)
    · have hf := mt_ifT c8 hf
      exact hj4 hf _ _ _ hH hS (lv_sub hl [0] rfl)
    · have hf := mt_ifF c8 hf
      refine lv_iload_n hx hb dX11_joined_8 rfl (lv_at hl 2 rfl) ?_
      refine lv_iconst (v := 2) hx hb dX11_joined_9 (by decide) ?_
      refine mt_b1I hf (fun r10 hg9 hf => ?_)
      refine mt_goi (mt_runS (As := [.int a2, .int (2 : Int32)]) (rest := []) ⟨hx, hb, hml, hown, hts⟩ hI hH (c_X11_isOneOf l E a2 (2 : Int32) M u _ hg9) (va_cwS 2 hts gX11_joined_X11_isOneOf rfl rfl rfl (by decide +kernel) ⟨Nat.le_of_ble_eq_true rfl, Nat.le_of_ble_eq_true rfl⟩) rfl hl.1 rfl (Nat.le_of_ble_eq_true rfl) dX11_joined_10 ⟨Nat.zero_le _, Nat.zero_le _⟩) hS (fun H locs hH hS => ?_)
      refine lv_if_ne (tgt := 23) hx hb dX11_joined_13 (by decide) (fun c11 => ?_) (fun c11 => ?_)
      · have hf := mt_ifF c11 hf
        refine lv_iload_n hx hb dX11_joined_23 rfl (lv_at hl 2 rfl) ?_
        by_cases c12 : a2 = (0 : Int32)
        · have hf := mt_ifT c12 hf
          refine lv_lookup (off := 28) (tgt := 52) hx hb dX11_joined_24 (by decide) (by rw [c12]; rfl) (by decide) ?_
          refine lv_aload_n hx hb dX11_joined_52 rfl (lv_at hl 0 rfl) ?_
          refine mt_getr (C := RX11) (T := TX11) (N := 10) hx hb hts hinX11 hown hI hH mt_T0 rfl 0 (by decide) kw0 rfl rfl dX11_joined_53 ?_
          refine lv_iload_n hx hb dX11_joined_56 rfl (lv_at hl 1 rfl) ?_
          refine mt_b1I hf (fun r14 hg13 hf => ?_)
          refine mt_goi (mt_runV (i := 10) (As := [.int a1]) (rest := []) ⟨hx, hb, hml, hown, hts⟩ hI hH (c_X4_wantedAfter l E 10 (by decide) a1 M u _ hg13) (cwV 1 hts gX11_joined_X4_wantedAfter rfl rfl rfl (by decide +kernel) ⟨Nat.le_of_ble_eq_true rfl, Nat.le_of_ble_eq_true rfl⟩) mt_T10 rfl rfl hl.1 rfl (Nat.le_of_ble_eq_true rfl) dX11_joined_57 ⟨Nat.zero_le _, Nat.zero_le _⟩) hS (fun H locs hH hS => ?_)
          obtain ⟨i1, i2⟩ := mt_so2 hf
          subst i1
          subst i2
          exact mt_iret hx hb hr hI hH hS hlocks dX11_joined_60
        · have hf := mt_ifF c12 hf
          by_cases c15 : a2 = (1 : Int32)
          · have hf := mt_ifT c15 hf
            refine lv_lookup (off := 37) (tgt := 61) hx hb dX11_joined_24 (by decide) (by rw [c15]; rfl) (by decide) ?_
            refine lv_aload_n hx hb dX11_joined_61 rfl (lv_at hl 0 rfl) ?_
            refine mt_getr (C := RX11) (T := TX11) (N := 10) hx hb hts hinX11 hown hI hH mt_T0 rfl 0 (by decide) kw0 rfl rfl dX11_joined_62 ?_
            refine lv_iload_n hx hb dX11_joined_65 rfl (lv_at hl 1 rfl) ?_
            refine mt_b1I hf (fun r17 hg16 hf => ?_)
            refine mt_goi (mt_runV (i := 10) (As := [.int a1]) (rest := []) ⟨hx, hb, hml, hown, hts⟩ hI hH (c_X4_lostBy l E 10 (by decide) a1 M u _ hg16) (cwV 1 hts gX11_joined_X4_lostBy rfl rfl rfl (by decide +kernel) ⟨Nat.le_of_ble_eq_true rfl, Nat.le_of_ble_eq_true rfl⟩) mt_T10 rfl rfl hl.1 rfl (Nat.le_of_ble_eq_true rfl) dX11_joined_66 ⟨Nat.zero_le _, Nat.zero_le _⟩) hS (fun H locs hH hS => ?_)
            obtain ⟨i1, i2⟩ := mt_so2 hf
            subst i1
            subst i2
            exact mt_iret hx hb hr hI hH hS hlocks dX11_joined_69
          · have hf := mt_ifF c15 hf
            refine lv_lookup (off := 46) (tgt := 70) hx hb dX11_joined_24 (by decide) (by have e90 := mt_ne (k := 0) (by decide) c12; have e91 := mt_ne (k := 1) (by decide) c15; simp [Op.lookupswitch.offset, e90, e91]) (by decide) ?_
            refine lv_aload_n hx hb dX11_joined_70 rfl (lv_at hl 0 rfl) ?_
            refine mt_getr (C := RX11) (T := TX11) (N := 10) hx hb hts hinX11 hown hI hH mt_T0 rfl 0 (by decide) kw0 rfl rfl dX11_joined_71 ?_
            refine lv_iload_n hx hb dX11_joined_74 rfl (lv_at hl 1 rfl) ?_
            refine mt_b1I hf (fun r19 hg18 hf => ?_)
            refine mt_goi (mt_runV (i := 10) (As := [.int a1]) (rest := []) ⟨hx, hb, hml, hown, hts⟩ hI hH (c_X4_broughtBackBy l E 10 (by decide) a1 M u _ hg18) (cwV 1 hts gX11_joined_X4_broughtBackBy rfl rfl rfl (by decide +kernel) ⟨Nat.le_of_ble_eq_true rfl, Nat.le_of_ble_eq_true rfl⟩) mt_T10 rfl rfl hl.1 rfl (Nat.le_of_ble_eq_true rfl) dX11_joined_75 ⟨Nat.zero_le _, Nat.zero_le _⟩) hS (fun H locs hH hS => ?_)
            obtain ⟨i1, i2⟩ := mt_so2 hf
            subst i1
            subst i2
            exact mt_iret hx hb hr hI hH hS hlocks dX11_joined_78
      · have hf := mt_ifT c11 hf
        exact hj4 hf _ _ _ hH hS (lv_sub hl [0] rfl)
set_option maxHeartbeats 4000000 in
set_option maxRecDepth 100000 in
theorem c_X11_bestRule (l : Launch) (E : mt_E) (a1 : Int32) (M : mt_M) (u : mt_U) (r : Int32) (M' : mt_M) (hf : f_X11_bestRule a1 M = some (r, M')) : Met l yX11_bestRule wsX11_bestRule ({ frames := 5, cells := 0, slots := 0, locals := 109 } : Room) (mt_P E [.ref (E.2.1 0), .int a1] M u) (mt_Qi E r M' u) 0 0 (mt_A E) := by
  refine Met.ofW (cc := cX11_bestRule) (maxL := 4) (ret := (some .int)) (by decide) rfl ?_
  intro p e s mid args below meth c0 s₁ B hml hv
  obtain ⟨rfl, hI, hH⟩ := hv
  have hx := B.exec
  have hb := B.bytes
  have hr := B.returns
  have hts := atoms_spec (ws := wsX11_bestRule) B.pre
  have hown : s.vm.findClass RX11 = some mid.cls := findClass_of_methodNamed B.named
  have hlocks := B.notSynchronized
  have hS : va_S (mt_A E) s.heap s.heap [] := va_S.rf
  have hl := lv_entry ([.ref (E.2.1 0), .int a1]) (n := 4) (Nat.le_of_ble_eq_true rfl)
  rw [lg_entry_eq]
  generalize (lg_sl ([.ref (E.2.1 0), .int a1]) ++ List.replicate (4 - (lg_sl ([.ref (E.2.1 0), .int a1])).length) Slot.unset).toArray = ls at hl ⊢
  have hl : lv_has ls 4 [(0, .ref (E.2.1 0)), (1, .int a1)] := hl
  unfold f_X11_bestRule at hf
  have kw0 := hts (.fieldLink RX11 39 "MilkTwice" "house" "LMilkTwice$House;") (List.mem_of_getElem? (i := 1) rfl)
  have hinX11 : ∀ w ∈ u_ws RX11 TX11 10, w ∈ wsX11_bestRule := fun w h => List.mem_cons_of_mem _ (List.mem_append_left _ (List.mem_append_left _ (List.mem_append_right _ h)))
  refine lv_iload_n hx hb dX11_bestRule_0 rfl (lv_at hl 1 rfl) ?_
  refine lv_iconst (v := 1) hx hb dX11_bestRule_1 (by decide) ?_
  refine mt_b1I hf (fun r2 hg1 hf => ?_)
  refine mt_goi (mt_runS (As := [.int a1, .int (1 : Int32)]) (rest := []) ⟨hx, hb, hml, hown, hts⟩ hI hH (c_X11_isOneOf l E a1 (1 : Int32) M u _ hg1) (va_cwS 2 hts gX11_bestRule_X11_isOneOf rfl rfl rfl (by decide +kernel) ⟨Nat.le_of_ble_eq_true rfl, Nat.le_of_ble_eq_true rfl⟩) rfl hl.1 rfl (Nat.le_of_ble_eq_true rfl) dX11_bestRule_2 ⟨Nat.zero_le _, Nat.zero_le _⟩) hS (fun H locs hH hS => ?_)
  refine lv_if_ne (tgt := 15) hx hb dX11_bestRule_5 (by decide) (fun c3 => ?_) (fun c3 => ?_)
  · have hf := mt_ifF c3 hf
    refine lv_iconst (v := 1) hx hb dX11_bestRule_15 (by decide) ?_
    refine lv_istore_n (lv' := [(2, .int (1 : Int32)), (0, .ref (E.2.1 0)), (1, .int a1)]) hx hb dX11_bestRule_16 rfl hl (by decide) rfl (fun ls hl => ?_)
    refine lv_iconst (v := 2) hx hb dX11_bestRule_17 (by decide) ?_
    refine lv_istore_n (lv' := [(3, .int (2 : Int32)), (2, .int (1 : Int32)), (0, .ref (E.2.1 0)), (1, .int a1)]) hx hb dX11_bestRule_18 rfl hl (by decide) rfl (fun ls hl => ?_)
    refine mt_lpI2 hf (fun (x4 : Int32) (x5 : Int32) => ∀ (H : Heap) (locs : List Loc) (ls : Array Slot), mt_H E M u H → va_S (mt_A E) s.heap H locs → lv_has ls 4 [(0, .ref (E.2.1 0)), (1, .int a1), (2, .int x4), (3, .int x5)] → W p l e (headSpec wsX11_bestRule ({ frames := 5, cells := 0, slots := 0, locals := 109 } : Room)).room s mid (([.ref (E.2.1 0), .int a1] : List Value).toArray) below meth c0 H locs 0 0 (MQ below (mt_Qi E r M' u) (([.ref (E.2.1 0), .int a1] : List Value).toArray) s 0 0 (mt_A E)) (F0 mid 19 ls [])) ?_ _ _ _ hH hS (lv_sub hl [2, 3, 1, 0] rfl)
    intro k6 ih7 x4 x5 hf H locs ls hH hS hl
    refine lv_iload_n hx hb dX11_bestRule_19 rfl (lv_at hl 3 rfl) ?_
    refine lv_iconst (v := 3) hx hb dX11_bestRule_20 (by decide) ?_
    refine lv_icmp_gt (tgt := 51) hx hb dX11_bestRule_21 (by decide) (fun c8 => ?_) (fun c8 => ?_)
    · have hf := mt_ifT c8 hf
      refine lv_iload_n hx hb dX11_bestRule_51 rfl (lv_at hl 1 rfl) ?_
      refine lv_if_ne (tgt := 59) hx hb dX11_bestRule_52 (by decide) (fun c9 => ?_) (fun c9 => ?_)
      · have hf := mt_ifF c9 hf
        refine lv_aload_n hx hb dX11_bestRule_59 rfl (lv_at hl 0 rfl) ?_
        refine mt_getr (C := RX11) (T := TX11) (N := 10) hx hb hts hinX11 hown hI hH mt_T0 rfl 0 (by decide) kw0 rfl rfl dX11_bestRule_60 ?_
        refine lv_iload_n hx hb dX11_bestRule_63 rfl (lv_at hl 2 rfl) ?_
        refine mt_b1I hf (fun r11 hg10 hf => ?_)
        refine mt_goi (mt_runV (i := 10) (As := [.int x4]) (rest := []) ⟨hx, hb, hml, hown, hts⟩ hI hH (c_X4_harmOfRule l E 10 (by decide) x4 M u _ hg10) (cwV 1 hts gX11_bestRule_X4_harmOfRule rfl rfl rfl (by decide +kernel) ⟨Nat.le_of_ble_eq_true rfl, Nat.le_of_ble_eq_true rfl⟩) mt_T10 rfl rfl hl.1 rfl (Nat.le_of_ble_eq_true rfl) dX11_bestRule_64 ⟨Nat.zero_le _, Nat.zero_le _⟩) hS (fun H locs hH hS => ?_)
        obtain ⟨i1, i2⟩ := mt_so2 hf
        subst i1
        subst i2
        exact mt_iret hx hb hr hI hH hS hlocks dX11_bestRule_67
      · have hf := mt_ifT c9 hf
        refine lv_iload_n hx hb dX11_bestRule_55 rfl (lv_at hl 2 rfl) ?_
        refine lv_goto (tgt := 67) hx hb dX11_bestRule_56 (by decide) ?_
        obtain ⟨i1, i2⟩ := mt_so2 hf
        subst i1
        subst i2
        exact mt_iret hx hb hr hI hH hS hlocks dX11_bestRule_67
    · have hf := mt_ifF c8 hf
      refine lv_aload_n hx hb dX11_bestRule_24 rfl (lv_at hl 0 rfl) ?_
      refine mt_getr (C := RX11) (T := TX11) (N := 10) hx hb hts hinX11 hown hI hH mt_T0 rfl 0 (by decide) kw0 rfl rfl dX11_bestRule_25 ?_
      refine lv_iload_n hx hb dX11_bestRule_28 rfl (lv_at hl 3 rfl) ?_
      refine mt_b1I hf (fun r13 hg12 hf => ?_)
      refine mt_goi (mt_runV (i := 10) (As := [.int x5]) (rest := []) ⟨hx, hb, hml, hown, hts⟩ hI hH (c_X4_harmOfRule l E 10 (by decide) x5 M u _ hg12) (cwV 1 hts gX11_bestRule_X4_harmOfRule rfl rfl rfl (by decide +kernel) ⟨Nat.le_of_ble_eq_true rfl, Nat.le_of_ble_eq_true rfl⟩) mt_T10 rfl rfl hl.1 rfl (Nat.le_of_ble_eq_true rfl) dX11_bestRule_29 ⟨Nat.zero_le _, Nat.zero_le _⟩) hS (fun H locs hH hS => ?_)
      refine lv_aload_n hx hb dX11_bestRule_32 rfl (lv_at hl 0 rfl) ?_
      refine mt_getr (C := RX11) (T := TX11) (N := 10) hx hb hts hinX11 hown hI hH mt_T0 rfl 0 (by decide) kw0 rfl rfl dX11_bestRule_33 ?_
      refine lv_iload_n hx hb dX11_bestRule_36 rfl (lv_at hl 2 rfl) ?_
      refine mt_b1I hf (fun r15 hg14 hf => ?_)
      refine mt_goi (mt_runV (i := 10) (As := [.int x4]) (rest := [.int r13]) ⟨hx, hb, hml, hown, hts⟩ hI hH (c_X4_harmOfRule l E 10 (by decide) x4 M u _ hg14) (cwV 1 hts gX11_bestRule_X4_harmOfRule rfl rfl rfl (by decide +kernel) ⟨Nat.le_of_ble_eq_true rfl, Nat.le_of_ble_eq_true rfl⟩) mt_T10 rfl rfl hl.1 rfl (Nat.le_of_ble_eq_true rfl) dX11_bestRule_37 ⟨Nat.zero_le _, Nat.zero_le _⟩) hS (fun H locs hH hS => ?_)
      refine mt_jn1 hf (fun (x16 : Int32) => ∀ (H : Heap) (locs : List Loc) (ls : Array Slot), mt_H E M u H → va_S (mt_A E) s.heap H locs → lv_has ls 4 [(0, .ref (E.2.1 0)), (1, .int a1), (2, .int x16), (3, .int x5)] → W p l e (headSpec wsX11_bestRule ({ frames := 5, cells := 0, slots := 0, locals := 109 } : Room)).room s mid (([.ref (E.2.1 0), .int a1] : List Value).toArray) below meth c0 H locs 0 0 (MQ below (mt_Qi E r M' u) (([.ref (E.2.1 0), .int a1] : List Value).toArray) s 0 0 (mt_A E)) (F0 mid 45 ls [])) ?_ ?_
      · intro x16 hf H locs ls hH hS hl
        refine mt_ltI hf (fun x19 ex19 hf => ?_)
        refine lv_iinc (v := x19) (lv' := [(3, .int x19), (0, .ref (E.2.1 0)), (1, .int a1), (2, .int x16)]) hx hb dX11_bestRule_45 hl (k := 3) rfl (by rw [ex19]; rfl) (by decide) rfl (fun ls hl => ?_)
        refine lv_goto (tgt := 19) hx hb dX11_bestRule_48 (by decide) ?_
        exact ih7 x16 x19 hf _ _ _ hH hS (lv_sub hl [1, 2, 3, 0] rfl)
      · intro j17 hj18 hf
        refine lv_icmp_ge (tgt := 45) hx hb dX11_bestRule_40 (by decide) (fun c20 => ?_) (fun c20 => ?_)
        · have hf := mt_ifT c20 hf
          exact hj18 x4 hf _ _ _ hH hS (lv_sub hl [0, 1, 2, 3] rfl)
        · have hf := mt_ifF c20 hf
          refine lv_iload_n hx hb dX11_bestRule_43 rfl (lv_at hl 3 rfl) ?_
          refine lv_istore_n (lv' := [(2, .int x5), (0, .ref (E.2.1 0)), (1, .int a1), (3, .int x5)]) hx hb dX11_bestRule_44 rfl hl (by decide) rfl (fun ls hl => ?_)
          exact hj18 x5 hf _ _ _ hH hS (lv_sub hl [1, 2, 0, 3] rfl)
  · have hf := mt_ifT c3 hf
    refine lv_aload_n hx hb dX11_bestRule_8 rfl (lv_at hl 0 rfl) ?_
    refine lv_bipush (v := (-2)) hx hb dX11_bestRule_9 (by decide) ?_
    refine mt_b2I hf (fun r22 M23 hg21 hf => ?_)
    refine mt_goi (mt_runV (i := 0) (As := [.int (-2 : Int32)]) (rest := []) ⟨hx, hb, hml, hown, hts⟩ hI hH (c_X11_refuse l E (-2 : Int32) M u _ _ hg21) (cwV 1 hts gX11_bestRule_X11_refuse rfl rfl rfl (by decide +kernel) ⟨Nat.le_of_ble_eq_true rfl, Nat.le_of_ble_eq_true rfl⟩) mt_T0 rfl rfl hl.1 rfl (Nat.le_of_ble_eq_true rfl) dX11_bestRule_11 ⟨Nat.zero_le _, Nat.zero_le _⟩) hS (fun H locs hH hS => ?_)
    obtain ⟨i1, i2⟩ := mt_so2 hf
    subst i1
    subst i2
    exact mt_iret hx hb hr hI hH hS hlocks dX11_bestRule_14
set_option maxHeartbeats 4000000 in
set_option maxRecDepth 100000 in
theorem c_X11_latest (l : Launch) (E : mt_E)  (M : mt_M) (u : mt_U) (r : Int32) (hf : f_X11_latest M = some (r)) : Met l yX11_latest wsX11_latest ({ frames := 4, cells := 0, slots := 0, locals := 89 } : Room) (mt_P E [.ref (E.2.1 0)] M u) (mt_Qi E r M u) 0 0 (mt_A E) := by
  refine Met.ofW (cc := cX11_latest) (maxL := 1) (ret := (some .int)) (by decide) rfl ?_
  intro p e s mid args below meth c0 s₁ B hml hv
  obtain ⟨rfl, hI, hH⟩ := hv
  have hx := B.exec
  have hb := B.bytes
  have hr := B.returns
  have hts := atoms_spec (ws := wsX11_latest) B.pre
  have hown : s.vm.findClass RX11 = some mid.cls := findClass_of_methodNamed B.named
  have hlocks := B.notSynchronized
  have hS : va_S (mt_A E) s.heap s.heap [] := va_S.rf
  have hl := lv_entry ([.ref (E.2.1 0)]) (n := 1) (Nat.le_of_ble_eq_true rfl)
  rw [lg_entry_eq]
  generalize (lg_sl ([.ref (E.2.1 0)]) ++ List.replicate (1 - (lg_sl ([.ref (E.2.1 0)])).length) Slot.unset).toArray = ls at hl ⊢
  have hl : lv_has ls 1 [(0, .ref (E.2.1 0))] := hl
  unfold f_X11_latest at hf
  have kw0 := hts (.fieldLink RX11 39 "MilkTwice" "house" "LMilkTwice$House;") (List.mem_of_getElem? (i := 1) rfl)
  have hinX11 : ∀ w ∈ u_ws RX11 TX11 10, w ∈ wsX11_latest := fun w h => List.mem_cons_of_mem _ (List.mem_append_left _ (List.mem_append_left _ (List.mem_append_right _ h)))
  refine lv_aload_n hx hb dX11_latest_0 rfl (lv_at hl 0 rfl) ?_
  refine mt_getr (C := RX11) (T := TX11) (N := 10) hx hb hts hinX11 hown hI hH mt_T0 rfl 0 (by decide) kw0 rfl rfl dX11_latest_1 ?_
  refine mt_b1I hf (fun r2 hg1 hf => ?_)
  refine mt_goi (mt_runV (i := 10) (As := []) (rest := []) ⟨hx, hb, hml, hown, hts⟩ hI hH (c_X4_latestLine l E 10 (by decide) M u _ hg1) (cwV 0 hts gX11_latest_X4_latestLine rfl rfl rfl (by decide +kernel) ⟨Nat.le_of_ble_eq_true rfl, Nat.le_of_ble_eq_true rfl⟩) mt_T10 rfl rfl hl.1 rfl (Nat.le_of_ble_eq_true rfl) dX11_latest_4 ⟨Nat.zero_le _, Nat.zero_le _⟩) hS (fun H locs hH hS => ?_)
  have i1 := mt_so1 hf
  subst i1
  exact mt_iret hx hb hr hI hH hS hlocks dX11_latest_7
set_option maxHeartbeats 4000000 in
set_option maxRecDepth 100000 in
theorem c_X11_twice (l : Launch) (E : mt_E)  (M : mt_M) (u : mt_U) (r : Int32) (hf : f_X11_twice M = some (r)) : Met l yX11_twice wsX11_twice ({ frames := 2, cells := 0, slots := 0, locals := 42 } : Room) (mt_P E [.ref (E.2.1 0)] M u) (mt_Qi E r M u) 0 0 (mt_A E) := by
  refine Met.ofW (cc := cX11_twice) (maxL := 1) (ret := (some .int)) (by decide) rfl ?_
  intro p e s mid args below meth c0 s₁ B hml hv
  obtain ⟨rfl, hI, hH⟩ := hv
  have hx := B.exec
  have hb := B.bytes
  have hr := B.returns
  have hts := atoms_spec (ws := wsX11_twice) B.pre
  have hown : s.vm.findClass RX11 = some mid.cls := findClass_of_methodNamed B.named
  have hlocks := B.notSynchronized
  have hS : va_S (mt_A E) s.heap s.heap [] := va_S.rf
  have hl := lv_entry ([.ref (E.2.1 0)]) (n := 1) (Nat.le_of_ble_eq_true rfl)
  rw [lg_entry_eq]
  generalize (lg_sl ([.ref (E.2.1 0)]) ++ List.replicate (1 - (lg_sl ([.ref (E.2.1 0)])).length) Slot.unset).toArray = ls at hl ⊢
  have hl : lv_has ls 1 [(0, .ref (E.2.1 0))] := hl
  unfold f_X11_twice at hf
  have kw0 := hts (.fieldLink RX11 39 "MilkTwice" "house" "LMilkTwice$House;") (List.mem_of_getElem? (i := 1) rfl)
  have hinX11 : ∀ w ∈ u_ws RX11 TX11 10, w ∈ wsX11_twice := fun w h => List.mem_cons_of_mem _ (List.mem_append_left _ (List.mem_append_right _ h))
  refine lv_aload_n hx hb dX11_twice_0 rfl (lv_at hl 0 rfl) ?_
  refine mt_getr (C := RX11) (T := TX11) (N := 10) hx hb hts hinX11 hown hI hH mt_T0 rfl 0 (by decide) kw0 rfl rfl dX11_twice_1 ?_
  refine lv_iconst (v := 0) hx hb dX11_twice_4 (by decide) ?_
  refine mt_b1I hf (fun r2 hg1 hf => ?_)
  refine mt_goi (mt_runV (i := 10) (As := [.int (0 : Int32)]) (rest := []) ⟨hx, hb, hml, hown, hts⟩ hI hH (c_X4_wantedBy l E 10 (by decide) (0 : Int32) M u _ hg1) (cwV 1 hts gX11_twice_X4_wantedBy rfl rfl rfl (by decide +kernel) ⟨Nat.le_of_ble_eq_true rfl, Nat.le_of_ble_eq_true rfl⟩) mt_T10 rfl rfl hl.1 rfl (Nat.le_of_ble_eq_true rfl) dX11_twice_5 ⟨Nat.zero_le _, Nat.zero_le _⟩) hS (fun H locs hH hS => ?_)
  refine lv_aload_n hx hb dX11_twice_8 rfl (lv_at hl 0 rfl) ?_
  refine mt_getr (C := RX11) (T := TX11) (N := 10) hx hb hts hinX11 hown hI hH mt_T0 rfl 0 (by decide) kw0 rfl rfl dX11_twice_9 ?_
  refine lv_iconst (v := 1) hx hb dX11_twice_12 (by decide) ?_
  refine mt_b1I hf (fun r4 hg3 hf => ?_)
  refine mt_goi (mt_runV (i := 10) (As := [.int (1 : Int32)]) (rest := [.int r2]) ⟨hx, hb, hml, hown, hts⟩ hI hH (c_X4_wantedBy l E 10 (by decide) (1 : Int32) M u _ hg3) (cwV 1 hts gX11_twice_X4_wantedBy rfl rfl rfl (by decide +kernel) ⟨Nat.le_of_ble_eq_true rfl, Nat.le_of_ble_eq_true rfl⟩) mt_T10 rfl rfl hl.1 rfl (Nat.le_of_ble_eq_true rfl) dX11_twice_13 ⟨Nat.zero_le _, Nat.zero_le _⟩) hS (fun H locs hH hS => ?_)
  refine lv_iand hx hb dX11_twice_16 ?_
  have i1 := mt_so1 hf
  subst i1
  exact mt_iret hx hb hr hI hH hS hlocks dX11_twice_17
set_option maxHeartbeats 4000000 in
set_option maxRecDepth 100000 in
theorem c_X11_paper (l : Launch) (E : mt_E) (a1 : Int32) (M : mt_M) (u : mt_U) (r : Int32) (M' : mt_M) (hf : f_X11_paper a1 M = some (r, M')) : Met l yX11_paper wsX11_paper ({ frames := 2, cells := 0, slots := 0, locals := 42 } : Room) (mt_P E [.ref (E.2.1 0), .int a1] M u) (mt_Qi E r M' u) 0 0 (mt_A E) := by
  refine Met.ofW (cc := cX11_paper) (maxL := 3) (ret := (some .int)) (by decide) rfl ?_
  intro p e s mid args below meth c0 s₁ B hml hv
  obtain ⟨rfl, hI, hH⟩ := hv
  have hx := B.exec
  have hb := B.bytes
  have hr := B.returns
  have hts := atoms_spec (ws := wsX11_paper) B.pre
  have hown : s.vm.findClass RX11 = some mid.cls := findClass_of_methodNamed B.named
  have hlocks := B.notSynchronized
  have hS : va_S (mt_A E) s.heap s.heap [] := va_S.rf
  have hl := lv_entry ([.ref (E.2.1 0), .int a1]) (n := 3) (Nat.le_of_ble_eq_true rfl)
  rw [lg_entry_eq]
  generalize (lg_sl ([.ref (E.2.1 0), .int a1]) ++ List.replicate (3 - (lg_sl ([.ref (E.2.1 0), .int a1])).length) Slot.unset).toArray = ls at hl ⊢
  have hl : lv_has ls 3 [(0, .ref (E.2.1 0)), (1, .int a1)] := hl
  unfold f_X11_paper at hf
  have kw0 := hts (.fieldLink RX11 39 "MilkTwice" "house" "LMilkTwice$House;") (List.mem_of_getElem? (i := 1) rfl)
  have hinX11 : ∀ w ∈ u_ws RX11 TX11 10, w ∈ wsX11_paper := fun w h => List.mem_cons_of_mem _ (List.mem_append_left _ (List.mem_append_left _ (List.mem_append_right _ h)))
  have hinX4 : ∀ w ∈ u_ws RX4 TX4 6, w ∈ wsX11_paper := fun w h => List.mem_cons_of_mem _ (List.mem_append_left _ (List.mem_append_right _ h))
  refine lv_iload_n hx hb dX11_paper_0 rfl (lv_at hl 1 rfl) ?_
  refine lv_iconst (v := 0) hx hb dX11_paper_1 (by decide) ?_
  refine lv_bipush (v := 127) hx hb dX11_paper_2 (by decide) ?_
  refine mt_b1I hf (fun r2 hg1 hf => ?_)
  refine mt_goi (mt_runS (As := [.int a1, .int (0 : Int32), .int (127 : Int32)]) (rest := []) ⟨hx, hb, hml, hown, hts⟩ hI hH (c_X11_outside l E a1 (0 : Int32) (127 : Int32) M u _ hg1) (va_cwS 3 hts gX11_paper_X11_outside rfl rfl rfl (by decide +kernel) ⟨Nat.le_of_ble_eq_true rfl, Nat.le_of_ble_eq_true rfl⟩) rfl hl.1 rfl (Nat.le_of_ble_eq_true rfl) dX11_paper_4 ⟨Nat.zero_le _, Nat.zero_le _⟩) hS (fun H locs hH hS => ?_)
  refine lv_istore_n (lv' := [(2, .int r2), (0, .ref (E.2.1 0)), (1, .int a1)]) hx hb dX11_paper_7 rfl hl (by decide) rfl (fun ls hl => ?_)
  refine lv_iload_n hx hb dX11_paper_8 rfl (lv_at hl 0 rfl) ?_
  refine lv_if_eq (tgt := 18) hx hb dX11_paper_9 (by decide) (fun c3 => ?_) (fun c3 => ?_)
  · have hf := mt_ifT c3 hf
    refine lv_iload_n hx hb dX11_paper_18 rfl (lv_at hl 2 rfl) ?_
    refine lv_aload_n hx hb dX11_paper_19 rfl (lv_at hl 1 rfl) ?_
    refine mt_getr (C := RX11) (T := TX11) (N := 10) hx hb hts hinX11 hown hI hH mt_T0 rfl 0 (by decide) kw0 rfl rfl dX11_paper_20 ?_
    refine mt_getrN (C := RX4) (T := TX4) (N := 6) hx hb hts hinX4 hown hI hH mt_T10 rfl 0 (by decide) (List.mem_of_getElem? (i := 10) rfl) rfl rfl dX11_paper_23 ?_
    refine mt_b1I hf (fun r5 hg4 hf => ?_)
    refine mt_goi (mt_runV (i := 13) (As := []) (rest := [.int a1]) ⟨hx, hb, hml, hown, hts⟩ hI hH (c_X0_bitsOfAll l E 13 (by decide) M u _ hg4) (cwV 0 hts gX11_paper_X0_bitsOfAll rfl rfl rfl (by decide +kernel) ⟨Nat.le_of_ble_eq_true rfl, Nat.le_of_ble_eq_true rfl⟩) mt_T13 rfl rfl hl.1 rfl (Nat.le_of_ble_eq_true rfl) dX11_paper_26 ⟨Nat.zero_le _, Nat.zero_le _⟩) hS (fun H locs hH hS => ?_)
    refine lv_iand hx hb dX11_paper_29 ?_
    refine lv_aload_n hx hb dX11_paper_30 rfl (lv_at hl 1 rfl) ?_
    refine mt_getr (C := RX11) (T := TX11) (N := 10) hx hb hts hinX11 hown hI hH mt_T0 rfl 0 (by decide) kw0 rfl rfl dX11_paper_31 ?_
    refine lv_iconst (v := 0) hx hb dX11_paper_34 (by decide) ?_
    refine mt_b1I hf (fun r7 hg6 hf => ?_)
    refine mt_goi (mt_runV (i := 10) (As := [.int (0 : Int32)]) (rest := [.int (a1 &&& r5)]) ⟨hx, hb, hml, hown, hts⟩ hI hH (c_X4_wantedBy l E 10 (by decide) (0 : Int32) M u _ hg6) (cwV 1 hts gX11_paper_X4_wantedBy rfl rfl rfl (by decide +kernel) ⟨Nat.le_of_ble_eq_true rfl, Nat.le_of_ble_eq_true rfl⟩) mt_T10 rfl rfl hl.1 rfl (Nat.le_of_ble_eq_true rfl) dX11_paper_35 ⟨Nat.zero_le _, Nat.zero_le _⟩) hS (fun H locs hH hS => ?_)
    refine lv_aload_n hx hb dX11_paper_38 rfl (lv_at hl 1 rfl) ?_
    refine mt_getr (C := RX11) (T := TX11) (N := 10) hx hb hts hinX11 hown hI hH mt_T0 rfl 0 (by decide) kw0 rfl rfl dX11_paper_39 ?_
    refine lv_iconst (v := 1) hx hb dX11_paper_42 (by decide) ?_
    refine mt_b1I hf (fun r9 hg8 hf => ?_)
    refine mt_goi (mt_runV (i := 10) (As := [.int (1 : Int32)]) (rest := [.int r7, .int (a1 &&& r5)]) ⟨hx, hb, hml, hown, hts⟩ hI hH (c_X4_wantedBy l E 10 (by decide) (1 : Int32) M u _ hg8) (cwV 1 hts gX11_paper_X4_wantedBy rfl rfl rfl (by decide +kernel) ⟨Nat.le_of_ble_eq_true rfl, Nat.le_of_ble_eq_true rfl⟩) mt_T10 rfl rfl hl.1 rfl (Nat.le_of_ble_eq_true rfl) dX11_paper_43 ⟨Nat.zero_le _, Nat.zero_le _⟩) hS (fun H locs hH hS => ?_)
    refine lv_ior hx hb dX11_paper_46 ?_
    refine lv_iconst (v := (-1)) hx hb dX11_paper_47 (by decide) ?_
    refine lv_ixor hx hb dX11_paper_48 ?_
    refine lv_iand hx hb dX11_paper_49 ?_
    obtain ⟨i1, i2⟩ := mt_so2 hf
    subst i1
    subst i2
    exact mt_iret hx hb hr hI hH hS hlocks dX11_paper_50
  · have hf := mt_ifF c3 hf
    refine lv_aload_n hx hb dX11_paper_12 rfl (lv_at hl 1 rfl) ?_
    refine lv_iload_n hx hb dX11_paper_13 rfl (lv_at hl 0 rfl) ?_
    refine mt_b2I hf (fun r11 M12 hg10 hf => ?_)
    refine mt_goi (mt_runV (i := 0) (As := [.int r2]) (rest := []) ⟨hx, hb, hml, hown, hts⟩ hI hH (c_X11_refuse l E r2 M u _ _ hg10) (cwV 1 hts gX11_paper_X11_refuse rfl rfl rfl (by decide +kernel) ⟨Nat.le_of_ble_eq_true rfl, Nat.le_of_ble_eq_true rfl⟩) mt_T0 rfl rfl hl.1 rfl (Nat.le_of_ble_eq_true rfl) dX11_paper_14 ⟨Nat.zero_le _, Nat.zero_le _⟩) hS (fun H locs hH hS => ?_)
    obtain ⟨i1, i2⟩ := mt_so2 hf
    subst i1
    subst i2
    exact mt_iret hx hb hr hI hH hS hlocks dX11_paper_17

/-! THE WALKS, laid by program: each method returns what its pure function says, and leaves the memory so -/
set_option maxHeartbeats 4000000 in
set_option maxRecDepth 100000 in
theorem c_X8_firstThingOut (l : Launch) (E : mt_E)  (M : mt_M) (u : mt_U) (r : Int32) (M' : mt_M) (hf : f_X8_firstThingOut M = some (r, M')) : Met l yX8_firstThingOut wsX8_firstThingOut ({ frames := 4, cells := 0, slots := 0, locals := 89 } : Room) (mt_P E [.ref (E.2.1 133)] M u) (mt_Qi E r M' u) 0 0 (mt_A E) := by
  refine Met.ofW (cc := cX8_firstThingOut) (maxL := 5) (ret := (some .int)) (by decide) rfl ?_
  intro p e s mid args below meth c0 s₁ B hml hv
  obtain ⟨rfl, hI, hH⟩ := hv
  have hx := B.exec
  have hb := B.bytes
  have hr := B.returns
  have hts := atoms_spec (ws := wsX8_firstThingOut) B.pre
  have hown : s.vm.findClass RX8 = some mid.cls := findClass_of_methodNamed B.named
  have hlocks := B.notSynchronized
  have hS : va_S (mt_A E) s.heap s.heap [] := va_S.rf
  have hl := lv_entry ([.ref (E.2.1 133)]) (n := 5) (Nat.le_of_ble_eq_true rfl)
  rw [lg_entry_eq]
  generalize (lg_sl ([.ref (E.2.1 133)]) ++ List.replicate (5 - (lg_sl ([.ref (E.2.1 133)])).length) Slot.unset).toArray = ls at hl ⊢
  have hl : lv_has ls 5 [(0, .ref (E.2.1 133))] := hl
  unfold f_X8_firstThingOut at hf
  have kw0 := hts (.fieldLink RX8 21 "MilkTwice$Mind" "house" "LMilkTwice$House;") (List.mem_of_getElem? (i := 1) rfl)
  have hinX8 : ∀ w ∈ u_ws RX8 TX8 5, w ∈ wsX8_firstThingOut := fun w h => List.mem_cons_of_mem _ (List.mem_append_left _ (List.mem_append_left _ (List.mem_append_right _ h)))
  have hinX4 : ∀ w ∈ u_ws RX4 TX4 6, w ∈ wsX8_firstThingOut := fun w h => List.mem_cons_of_mem _ (List.mem_append_left _ (List.mem_append_right _ h))
  have hinX0 : ∀ w ∈ u_ws RX0 TX0 12, w ∈ wsX8_firstThingOut := fun w h => List.mem_cons_of_mem _ (List.mem_append_right _ h)
  refine lv_bipush (v := (-9)) hx hb dX8_firstThingOut_0 (by decide) ?_
  refine lv_istore_n (lv' := [(1, .int (-9 : Int32)), (0, .ref (E.2.1 133))]) hx hb dX8_firstThingOut_2 rfl hl (by decide) rfl (fun ls hl => ?_)
  refine lv_bipush (v := 61) hx hb dX8_firstThingOut_3 (by decide) ?_
  refine lv_istore_n (lv' := [(2, .int (61 : Int32)), (1, .int (-9 : Int32)), (0, .ref (E.2.1 133))]) hx hb dX8_firstThingOut_5 rfl hl (by decide) rfl (fun ls hl => ?_)
  refine lv_iconst (v := 0) hx hb dX8_firstThingOut_6 (by decide) ?_
  refine lv_istore_n (lv' := [(3, .int (0 : Int32)), (2, .int (61 : Int32)), (1, .int (-9 : Int32)), (0, .ref (E.2.1 133))]) hx hb dX8_firstThingOut_7 rfl hl (by decide) rfl (fun ls hl => ?_)
  refine mt_lpI4 hf (fun (x1 : Int32) (x2 : Int32) (x3 : Int32) (M4 : mt_M) => ∀ (H : Heap) (locs : List Loc) (ls : Array Slot), mt_H E M4 u H → va_S (mt_A E) s.heap H locs → lv_has ls 5 [(0, .ref (E.2.1 133)), (1, .int x1), (2, .int x2), (3, .int x3)] → W p l e (headSpec wsX8_firstThingOut ({ frames := 4, cells := 0, slots := 0, locals := 89 } : Room)).room s mid (([.ref (E.2.1 133)] : List Value).toArray) below meth c0 H locs 0 0 (MQ below (mt_Qi E r M' u) (([.ref (E.2.1 133)] : List Value).toArray) s 0 0 (mt_A E)) (F0 mid 8 ls [])) ?_ _ _ _ hH hS (lv_sub hl [3, 2, 1, 0] rfl)
  intro k5 ih6 x1 x2 x3 M4 hf H locs ls hH hS hl
  refine lv_iload_n hx hb dX8_firstThingOut_8 rfl (lv_at hl 3 rfl) ?_
  refine lv_aload_n hx hb dX8_firstThingOut_9 rfl (lv_at hl 0 rfl) ?_
  refine mt_getr (C := RX8) (T := TX8) (N := 5) hx hb hts hinX8 hown hI hH mt_T133 rfl 0 (by decide) kw0 rfl rfl dX8_firstThingOut_10 ?_
  refine mt_getrN (C := RX4) (T := TX4) (N := 6) hx hb hts hinX4 hown hI hH mt_T10 rfl 0 (by decide) (List.mem_of_getElem? (i := 9) rfl) rfl rfl dX8_firstThingOut_13 ?_
  refine mt_getiN (C := RX0) (T := TX0) (N := 12) hx hb hts hinX0 hown hI hH mt_T13 rfl 8 (by decide) (List.mem_of_getElem? (i := 1) rfl) rfl rfl dX8_firstThingOut_16 ?_
  refine lv_icmp_ge (tgt := 53) hx hb dX8_firstThingOut_19 (by decide) (fun c7 => ?_) (fun c7 => ?_)
  · have hf := mt_ifT c7 hf
    refine lv_iload_n hx hb dX8_firstThingOut_53 rfl (lv_at hl 1 rfl) ?_
    obtain ⟨i1, i2⟩ := mt_so2 hf
    subst i1
    subst i2
    exact mt_iret hx hb hr hI hH hS hlocks dX8_firstThingOut_54
  · have hf := mt_ifF c7 hf
    refine lv_aload_n hx hb dX8_firstThingOut_22 rfl (lv_at hl 0 rfl) ?_
    refine lv_iload_n hx hb dX8_firstThingOut_23 rfl (lv_at hl 3 rfl) ?_
    refine mt_b2I hf (fun r9 M10 hg8 hf => ?_)
    refine mt_goi (mt_runV (i := 133) (As := [.int x3]) (rest := []) ⟨hx, hb, hml, hown, hts⟩ hI hH (c_X8_firstDayWithout l E x3 M4 u _ _ hg8) (cwV 1 hts gX8_firstThingOut_X8_firstDayWithout rfl rfl rfl (by decide +kernel) ⟨Nat.le_of_ble_eq_true rfl, Nat.le_of_ble_eq_true rfl⟩) mt_T133 rfl rfl hl.1 rfl (Nat.le_of_ble_eq_true rfl) dX8_firstThingOut_24 ⟨Nat.zero_le _, Nat.zero_le _⟩) hS (fun H locs hH hS => ?_)
    refine lv_istore (lv' := [(4, .int r9), (0, .ref (E.2.1 133)), (1, .int x1), (2, .int x2), (3, .int x3)]) hx hb dX8_firstThingOut_27 hl (by decide) rfl (fun ls hl => ?_)
    refine lv_iload hx hb dX8_firstThingOut_29 (lv_at hl 0 rfl) ?_
    refine lv_bipush (v := (-9)) hx hb dX8_firstThingOut_31 (by decide) ?_
    refine mt_jn2 hf (fun (x11 : Int32) (x12 : Int32) => ∀ (H : Heap) (locs : List Loc) (ls : Array Slot), mt_H E M10 u H → va_S (mt_A E) s.heap H locs → lv_has ls 5 [(0, .ref (E.2.1 133)), (1, .int x11), (2, .int x12), (3, .int x3)] → W p l e (headSpec wsX8_firstThingOut ({ frames := 4, cells := 0, slots := 0, locals := 89 } : Room)).room s mid (([.ref (E.2.1 133)] : List Value).toArray) below meth c0 H locs 0 0 (MQ below (mt_Qi E r M' u) (([.ref (E.2.1 133)] : List Value).toArray) s 0 0 (mt_A E)) (F0 mid 47 ls [])) ?_ ?_
    · intro x11 x12 hf H locs ls hH hS hl
      refine mt_ltI hf (fun x15 ex15 hf => ?_)
      refine lv_iinc (v := x15) (lv' := [(3, .int x15), (0, .ref (E.2.1 133)), (1, .int x11), (2, .int x12)]) hx hb dX8_firstThingOut_47 hl (k := 3) rfl (by rw [ex15]; rfl) (by decide) rfl (fun ls hl => ?_)
      refine lv_goto (tgt := 8) hx hb dX8_firstThingOut_50 (by decide) ?_
      exact ih6 x11 x12 x15 M10 hf _ _ _ hH hS (lv_sub hl [1, 2, 3, 0] rfl)
    · intro j13 hj14 hf
      refine lv_icmp_eq (tgt := 47) hx hb dX8_firstThingOut_33 (by decide) (fun c16 => ?_) (fun c16 => ?_)
      · have hf := mt_ifT c16 hf
        exact hj14 x1 x2 hf _ _ _ hH hS (lv_sub hl [1, 2, 3, 4] rfl)
      · have hf := mt_ifF c16 hf
        refine lv_iload hx hb dX8_firstThingOut_36 (lv_at hl 0 rfl) ?_
        refine lv_iload_n hx hb dX8_firstThingOut_38 rfl (lv_at hl 3 rfl) ?_
        refine lv_icmp_ge (tgt := 47) hx hb dX8_firstThingOut_39 (by decide) (fun c17 => ?_) (fun c17 => ?_)
        · have hf := mt_ifT c17 hf
          exact hj14 x1 x2 hf _ _ _ hH hS (lv_sub hl [1, 2, 3, 4] rfl)
        · have hf := mt_ifF c17 hf
          refine lv_iload hx hb dX8_firstThingOut_42 (lv_at hl 0 rfl) ?_
          refine lv_istore_n (lv' := [(2, .int r9), (4, .int r9), (0, .ref (E.2.1 133)), (1, .int x1), (3, .int x3)]) hx hb dX8_firstThingOut_44 rfl hl (by decide) rfl (fun ls hl => ?_)
          refine lv_iload_n hx hb dX8_firstThingOut_45 rfl (lv_at hl 4 rfl) ?_
          refine lv_istore_n (lv' := [(1, .int x3), (2, .int r9), (4, .int r9), (0, .ref (E.2.1 133)), (3, .int x3)]) hx hb dX8_firstThingOut_46 rfl hl (by decide) rfl (fun ls hl => ?_)
          exact hj14 x3 r9 hf _ _ _ hH hS (lv_sub hl [3, 0, 1, 4] rfl)
set_option maxHeartbeats 4000000 in
set_option maxRecDepth 100000 in
theorem c_X8_firstDayWithoutSome (l : Launch) (E : mt_E) (a1 : Int32) (M : mt_M) (u : mt_U) (r : Int32) (M' : mt_M) (hf : f_X8_firstDayWithoutSome a1 M = some (r, M')) : Met l yX8_firstDayWithoutSome wsX8_firstDayWithoutSome ({ frames := 3, cells := 0, slots := 0, locals := 67 } : Room) (mt_P E [.ref (E.2.1 133), .int a1] M u) (mt_Qi E r M' u) 0 0 (mt_A E) := by
  refine Met.ofW (cc := cX8_firstDayWithoutSome) (maxL := 5) (ret := (some .int)) (by decide) rfl ?_
  intro p e s mid args below meth c0 s₁ B hml hv
  obtain ⟨rfl, hI, hH⟩ := hv
  have hx := B.exec
  have hb := B.bytes
  have hr := B.returns
  have hts := atoms_spec (ws := wsX8_firstDayWithoutSome) B.pre
  have hown : s.vm.findClass RX8 = some mid.cls := findClass_of_methodNamed B.named
  have hlocks := B.notSynchronized
  have hS : va_S (mt_A E) s.heap s.heap [] := va_S.rf
  have hl := lv_entry ([.ref (E.2.1 133), .int a1]) (n := 5) (Nat.le_of_ble_eq_true rfl)
  rw [lg_entry_eq]
  generalize (lg_sl ([.ref (E.2.1 133), .int a1]) ++ List.replicate (5 - (lg_sl ([.ref (E.2.1 133), .int a1])).length) Slot.unset).toArray = ls at hl ⊢
  have hl : lv_has ls 5 [(0, .ref (E.2.1 133)), (1, .int a1)] := hl
  unfold f_X8_firstDayWithoutSome at hf
  have kw0 := hts (.fieldLink RX8 30 "MilkTwice$Mind" "shelf" "LMilkTwice$Cupboard;") (List.mem_of_getElem? (i := 1) rfl)
  have hinX8 : ∀ w ∈ u_ws RX8 TX8 5, w ∈ wsX8_firstDayWithoutSome := fun w h => List.mem_cons_of_mem _ (List.mem_append_left _ (List.mem_append_left _ (List.mem_append_right _ h)))
  have hinX0 : ∀ w ∈ u_ws RX0 TX0 12, w ∈ wsX8_firstDayWithoutSome := fun w h => List.mem_cons_of_mem _ (List.mem_append_left _ (List.mem_append_right _ h))
  refine lv_aload_n hx hb dX8_firstDayWithoutSome_0 rfl (lv_at hl 0 rfl) ?_
  refine mt_b1I hf (fun M2 hg1 hf => ?_)
  refine mt_gov (mt_runV (i := 133) (As := []) (rest := []) ⟨hx, hb, hml, hown, hts⟩ hI hH (c_X8_begin l E M u _ hg1) (cwV 0 hts gX8_firstDayWithoutSome_X8_begin rfl rfl rfl (by decide +kernel) ⟨Nat.le_of_ble_eq_true rfl, Nat.le_of_ble_eq_true rfl⟩) mt_T133 rfl rfl hl.1 rfl (Nat.le_of_ble_eq_true rfl) dX8_firstDayWithoutSome_1 ⟨Nat.zero_le _, Nat.zero_le _⟩) hS (fun H locs hH hS => ?_)
  refine lv_iconst (v := 1) hx hb dX8_firstDayWithoutSome_4 (by decide) ?_
  refine lv_istore_n (lv' := [(2, .int (1 : Int32)), (0, .ref (E.2.1 133)), (1, .int a1)]) hx hb dX8_firstDayWithoutSome_5 rfl hl (by decide) rfl (fun ls hl => ?_)
  refine mt_lpI2 hf (fun (x3 : Int32) (M4 : mt_M) => ∀ (H : Heap) (locs : List Loc) (ls : Array Slot), mt_H E M4 u H → va_S (mt_A E) s.heap H locs → lv_has ls 5 [(0, .ref (E.2.1 133)), (1, .int a1), (2, .int x3)] → W p l e (headSpec wsX8_firstDayWithoutSome ({ frames := 3, cells := 0, slots := 0, locals := 67 } : Room)).room s mid (([.ref (E.2.1 133), .int a1] : List Value).toArray) below meth c0 H locs 0 0 (MQ below (mt_Qi E r M' u) (([.ref (E.2.1 133), .int a1] : List Value).toArray) s 0 0 (mt_A E)) (F0 mid 6 ls [])) ?_ _ _ _ hH hS (lv_sub hl [1, 2, 0] rfl)
  intro k5 ih6 x3 M4 hf H locs ls hH hS hl
  refine lv_iload_n hx hb dX8_firstDayWithoutSome_6 rfl (lv_at hl 2 rfl) ?_
  refine lv_bipush (v := 60) hx hb dX8_firstDayWithoutSome_7 (by decide) ?_
  refine lv_icmp_gt (tgt := 68) hx hb dX8_firstDayWithoutSome_9 (by decide) (fun c7 => ?_) (fun c7 => ?_)
  · have hf := mt_ifT c7 hf
    refine lv_bipush (v := (-9)) hx hb dX8_firstDayWithoutSome_68 (by decide) ?_
    obtain ⟨i1, i2⟩ := mt_so2 hf
    subst i1
    subst i2
    exact mt_iret hx hb hr hI hH hS hlocks dX8_firstDayWithoutSome_70
  · have hf := mt_ifF c7 hf
    refine lv_iconst (v := 0) hx hb dX8_firstDayWithoutSome_12 (by decide) ?_
    refine lv_istore_n (lv' := [(3, .int (0 : Int32)), (0, .ref (E.2.1 133)), (1, .int a1), (2, .int x3)]) hx hb dX8_firstDayWithoutSome_13 rfl hl (by decide) rfl (fun ls hl => ?_)
    refine lv_iconst (v := 0) hx hb dX8_firstDayWithoutSome_14 (by decide) ?_
    refine lv_istore (lv' := [(4, .int (0 : Int32)), (3, .int (0 : Int32)), (0, .ref (E.2.1 133)), (1, .int a1), (2, .int x3)]) hx hb dX8_firstDayWithoutSome_15 hl (by decide) rfl (fun ls hl => ?_)
    refine mt_lpI3 hf (fun (x8 : Int32) (x9 : Int32) (M10 : mt_M) => ∀ (H : Heap) (locs : List Loc) (ls : Array Slot), mt_H E M10 u H → va_S (mt_A E) s.heap H locs → lv_has ls 5 [(0, .ref (E.2.1 133)), (1, .int a1), (2, .int x3), (3, .int x8), (4, .int x9)] → W p l e (headSpec wsX8_firstDayWithoutSome ({ frames := 3, cells := 0, slots := 0, locals := 67 } : Room)).room s mid (([.ref (E.2.1 133), .int a1] : List Value).toArray) below meth c0 H locs 0 0 (MQ below (mt_Qi E r M' u) (([.ref (E.2.1 133), .int a1] : List Value).toArray) s 0 0 (mt_A E)) (F0 mid 17 ls [])) ?_ _ _ _ hH hS (lv_sub hl [2, 3, 4, 1, 0] rfl)
    intro k11 ih12 x8 x9 M10 hf H locs ls hH hS hl
    refine lv_iload hx hb dX8_firstDayWithoutSome_17 (lv_at hl 4 rfl) ?_
    refine lv_aload_n hx hb dX8_firstDayWithoutSome_19 rfl (lv_at hl 0 rfl) ?_
    refine mt_getr (C := RX8) (T := TX8) (N := 5) hx hb hts hinX8 hown hI hH mt_T133 rfl 1 (by decide) kw0 rfl rfl dX8_firstDayWithoutSome_20 ?_
    refine mt_getiN (C := RX0) (T := TX0) (N := 12) hx hb hts hinX0 hown hI hH mt_T137 rfl 8 (by decide) (List.mem_of_getElem? (i := 1) rfl) rfl rfl dX8_firstDayWithoutSome_23 ?_
    refine lv_icmp_ge (tgt := 55) hx hb dX8_firstDayWithoutSome_26 (by decide) (fun c13 => ?_) (fun c13 => ?_)
    · have hf := mt_ifT c13 hf
      refine lv_iload_n hx hb dX8_firstDayWithoutSome_55 rfl (lv_at hl 3 rfl) ?_
      refine lv_iload_n hx hb dX8_firstDayWithoutSome_56 rfl (lv_at hl 1 rfl) ?_
      refine lv_icmp_lt (tgt := 62) hx hb dX8_firstDayWithoutSome_57 (by decide) (fun c14 => ?_) (fun c14 => ?_)
      · have hf := mt_ifT c14 hf
        refine mt_ltI hf (fun x15 ex15 hf => ?_)
        refine lv_iinc (v := x15) (lv' := [(2, .int x15), (0, .ref (E.2.1 133)), (1, .int a1), (3, .int x8), (4, .int x9)]) hx hb dX8_firstDayWithoutSome_62 hl (k := 2) rfl (by rw [ex15]; rfl) (by decide) rfl (fun ls hl => ?_)
        refine lv_goto (tgt := 6) hx hb dX8_firstDayWithoutSome_65 (by decide) ?_
        exact ih6 x15 M10 hf _ _ _ hH hS (lv_sub hl [1, 2, 0] rfl)
      · have hf := mt_ifF c14 hf
        refine lv_iload_n hx hb dX8_firstDayWithoutSome_60 rfl (lv_at hl 2 rfl) ?_
        obtain ⟨i1, i2⟩ := mt_so2 hf
        subst i1
        subst i2
        exact mt_iret hx hb hr hI hH hS hlocks dX8_firstDayWithoutSome_61
    · have hf := mt_ifF c13 hf
      refine lv_iload_n hx hb dX8_firstDayWithoutSome_29 rfl (lv_at hl 3 rfl) ?_
      refine lv_aload_n hx hb dX8_firstDayWithoutSome_30 rfl (lv_at hl 0 rfl) ?_
      refine mt_getr (C := RX8) (T := TX8) (N := 5) hx hb hts hinX8 hown hI hH mt_T133 rfl 1 (by decide) kw0 rfl rfl dX8_firstDayWithoutSome_31 ?_
      refine lv_iload hx hb dX8_firstDayWithoutSome_34 (lv_at hl 4 rfl) ?_
      refine mt_b2I hf (fun r17 M18 hg16 hf => ?_)
      refine mt_goi (mt_runV (i := 137) (As := [.int x9]) (rest := [.int x8]) ⟨hx, hb, hml, hown, hts⟩ hI hH (c_X0_liveDayOf l E 137 (by decide) x9 M10 u _ _ hg16) (cwV 1 hts gX8_firstDayWithoutSome_X0_liveDayOf rfl rfl rfl (by decide +kernel) ⟨Nat.le_of_ble_eq_true rfl, Nat.le_of_ble_eq_true rfl⟩) mt_T137 rfl rfl hl.1 rfl (Nat.le_of_ble_eq_true rfl) dX8_firstDayWithoutSome_36 ⟨Nat.zero_le _, Nat.zero_le _⟩) hS (fun H locs hH hS => ?_)
      refine mt_jn1 hf (fun (v19 : Int32) => ∀ (H : Heap) (locs : List Loc) (ls : Array Slot), mt_H E M18 u H → va_S (mt_A E) s.heap H locs → lv_has ls 5 [(0, .ref (E.2.1 133)), (1, .int a1), (2, .int x3), (4, .int x9)] → W p l e (headSpec wsX8_firstDayWithoutSome ({ frames := 3, cells := 0, slots := 0, locals := 67 } : Room)).room s mid (([.ref (E.2.1 133), .int a1] : List Value).toArray) below meth c0 H locs 0 0 (MQ below (mt_Qi E r M' u) (([.ref (E.2.1 133), .int a1] : List Value).toArray) s 0 0 (mt_A E)) (F0 mid 47 ls [.int v19, .int x8])) ?_ ?_
      · intro v19 hf H locs ls hH hS hl
        refine lv_iadd hx hb dX8_firstDayWithoutSome_47 ?_
        refine mt_lti hf (fun x22 ex22 hf => ?_)
        refine lv_istore_n (lv' := [(3, .int x22), (0, .ref (E.2.1 133)), (1, .int a1), (2, .int x3), (4, .int x9)]) hx hb dX8_firstDayWithoutSome_48 rfl hl (by decide) rfl (fun ls hl => ?_)
        refine mt_ltI hf (fun x23 ex23 hf => ?_)
        refine lv_iinc (v := x23) (lv' := [(4, .int x23), (3, .int x22), (0, .ref (E.2.1 133)), (1, .int a1), (2, .int x3)]) hx hb dX8_firstDayWithoutSome_49 hl (k := 4) rfl (by rw [ex23]; rfl) (by decide) rfl (fun ls hl => ?_)
        refine lv_goto (tgt := 17) hx hb dX8_firstDayWithoutSome_52 (by decide) ?_
        exact ih12 x22 x23 M18 hf _ _ _ hH hS (lv_sub hl [2, 3, 4, 1, 0] rfl)
      · intro j20 hj21 hf
        refine lv_if_le (tgt := 46) hx hb dX8_firstDayWithoutSome_39 (by decide) (fun c24 => ?_) (fun c24 => ?_)
        · have hf := mt_ifT c24 hf
          refine lv_iconst (v := 0) hx hb dX8_firstDayWithoutSome_46 (by decide) ?_
          exact hj21 (0 : Int32) hf _ _ _ hH hS (lv_sub hl [0, 1, 2, 4] rfl)
        · have hf := mt_ifF c24 hf
          refine lv_iconst (v := 1) hx hb dX8_firstDayWithoutSome_42 (by decide) ?_
          refine lv_goto (tgt := 47) hx hb dX8_firstDayWithoutSome_43 (by decide) ?_
          exact hj21 (1 : Int32) hf _ _ _ hH hS (lv_sub hl [0, 1, 2, 4] rfl)
set_option maxHeartbeats 4000000 in
set_option maxRecDepth 100000 in
theorem c_X8_packsFor (l : Launch) (E : mt_E) (a1 : Int32) (a2 : Int32) (M : mt_M) (u : mt_U) (r : Int32) (M' : mt_M) (hf : f_X8_packsFor a1 a2 M = some (r, M')) : Met l yX8_packsFor wsX8_packsFor ({ frames := 4, cells := 0, slots := 0, locals := 91 } : Room) (mt_P E [.ref (E.2.1 133), .int a1, .int a2] M u) (mt_Qi E r M' u) 0 0 (mt_A E) := by
  refine Met.ofW (cc := cX8_packsFor) (maxL := 4) (ret := (some .int)) (by decide) rfl ?_
  intro p e s mid args below meth c0 s₁ B hml hv
  obtain ⟨rfl, hI, hH⟩ := hv
  have hx := B.exec
  have hb := B.bytes
  have hr := B.returns
  have hts := atoms_spec (ws := wsX8_packsFor) B.pre
  have hown : s.vm.findClass RX8 = some mid.cls := findClass_of_methodNamed B.named
  have hlocks := B.notSynchronized
  have hS : va_S (mt_A E) s.heap s.heap [] := va_S.rf
  have hl := lv_entry ([.ref (E.2.1 133), .int a1, .int a2]) (n := 4) (Nat.le_of_ble_eq_true rfl)
  rw [lg_entry_eq]
  generalize (lg_sl ([.ref (E.2.1 133), .int a1, .int a2]) ++ List.replicate (4 - (lg_sl ([.ref (E.2.1 133), .int a1, .int a2])).length) Slot.unset).toArray = ls at hl ⊢
  have hl : lv_has ls 4 [(0, .ref (E.2.1 133)), (1, .int a1), (2, .int a2)] := hl
  unfold f_X8_packsFor at hf
  have kw0 := hts (.fieldLink RX8 30 "MilkTwice$Mind" "shelf" "LMilkTwice$Cupboard;") (List.mem_of_getElem? (i := 1) rfl)
  have hinX8 : ∀ w ∈ u_ws RX8 TX8 5, w ∈ wsX8_packsFor := fun w h => List.mem_cons_of_mem _ (List.mem_append_left _ (List.mem_append_left _ (List.mem_append_right _ h)))
  have hinX0 : ∀ w ∈ u_ws RX0 TX0 12, w ∈ wsX8_packsFor := fun w h => List.mem_cons_of_mem _ (List.mem_append_left _ (List.mem_append_right _ h))
  refine lv_iconst (v := 0) hx hb dX8_packsFor_0 (by decide) ?_
  refine lv_istore_n (lv' := [(3, .int (0 : Int32)), (0, .ref (E.2.1 133)), (1, .int a1), (2, .int a2)]) hx hb dX8_packsFor_1 rfl hl (by decide) rfl (fun ls hl => ?_)
  refine mt_lpI2 hf (fun (x1 : Int32) (M2 : mt_M) => ∀ (H : Heap) (locs : List Loc) (ls : Array Slot), mt_H E M2 u H → va_S (mt_A E) s.heap H locs → lv_has ls 4 [(0, .ref (E.2.1 133)), (1, .int a1), (2, .int a2), (3, .int x1)] → W p l e (headSpec wsX8_packsFor ({ frames := 4, cells := 0, slots := 0, locals := 91 } : Room)).room s mid (([.ref (E.2.1 133), .int a1, .int a2] : List Value).toArray) below meth c0 H locs 0 0 (MQ below (mt_Qi E r M' u) (([.ref (E.2.1 133), .int a1, .int a2] : List Value).toArray) s 0 0 (mt_A E)) (F0 mid 2 ls [])) ?_ _ _ _ hH hS (lv_sub hl [1, 2, 3, 0] rfl)
  intro k3 ih4 x1 M2 hf H locs ls hH hS hl
  refine lv_iload_n hx hb dX8_packsFor_2 rfl (lv_at hl 3 rfl) ?_
  refine lv_bipush (v := 20) hx hb dX8_packsFor_3 (by decide) ?_
  refine lv_icmp_gt (tgt := 38) hx hb dX8_packsFor_5 (by decide) (fun c5 => ?_) (fun c5 => ?_)
  · have hf := mt_ifT c5 hf
    refine lv_bipush (v := 99) hx hb dX8_packsFor_38 (by decide) ?_
    obtain ⟨i1, i2⟩ := mt_so2 hf
    subst i1
    subst i2
    exact mt_iret hx hb hr hI hH hS hlocks dX8_packsFor_40
  · have hf := mt_ifF c5 hf
    refine lv_aload_n hx hb dX8_packsFor_8 rfl (lv_at hl 0 rfl) ?_
    refine lv_iload_n hx hb dX8_packsFor_9 rfl (lv_at hl 1 rfl) ?_
    refine lv_aload_n hx hb dX8_packsFor_10 rfl (lv_at hl 0 rfl) ?_
    refine lv_iload_n hx hb dX8_packsFor_11 rfl (lv_at hl 1 rfl) ?_
    refine lv_iload_n hx hb dX8_packsFor_12 rfl (lv_at hl 3 rfl) ?_
    refine mt_b1I hf (fun r7 hg6 hf => ?_)
    refine mt_goi (mt_runV (i := 133) (As := [.int a1, .int x1]) (rest := [.int a1, .ref (E.2.1 133)]) ⟨hx, hb, hml, hown, hts⟩ hI hH (c_X8_stockWith l E a1 x1 M2 u _ hg6) (cwV 2 hts gX8_packsFor_X8_stockWith rfl rfl rfl (by decide +kernel) ⟨Nat.le_of_ble_eq_true rfl, Nat.le_of_ble_eq_true rfl⟩) mt_T133 rfl rfl hl.1 rfl (Nat.le_of_ble_eq_true rfl) dX8_packsFor_13 ⟨Nat.zero_le _, Nat.zero_le _⟩) hS (fun H locs hH hS => ?_)
    refine lv_iload_n hx hb dX8_packsFor_16 rfl (lv_at hl 2 rfl) ?_
    refine mt_b1I hf (fun M9 hg8 hf => ?_)
    refine mt_gov (mt_runV (i := 133) (As := [.int a1, .int r7, .int a2]) (rest := []) ⟨hx, hb, hml, hown, hts⟩ hI hH (c_X8_liveDaysOf l E a1 r7 a2 M2 u _ hg8) (cwV 3 hts gX8_packsFor_X8_liveDaysOf rfl rfl rfl (by decide +kernel) ⟨Nat.le_of_ble_eq_true rfl, Nat.le_of_ble_eq_true rfl⟩) mt_T133 rfl rfl hl.1 rfl (Nat.le_of_ble_eq_true rfl) dX8_packsFor_17 ⟨Nat.zero_le _, Nat.zero_le _⟩) hS (fun H locs hH hS => ?_)
    refine lv_aload_n hx hb dX8_packsFor_20 rfl (lv_at hl 0 rfl) ?_
    refine mt_getr (C := RX8) (T := TX8) (N := 5) hx hb hts hinX8 hown hI hH mt_T133 rfl 1 (by decide) kw0 rfl rfl dX8_packsFor_21 ?_
    refine mt_getiN (C := RX0) (T := TX0) (N := 12) hx hb hts hinX0 hown hI hH mt_T137 rfl 10 (by decide) (List.mem_of_getElem? (i := 5) rfl) rfl rfl dX8_packsFor_24 ?_
    refine lv_if_ne (tgt := 32) hx hb dX8_packsFor_27 (by decide) (fun c10 => ?_) (fun c10 => ?_)
    · have hf := mt_ifF c10 hf
      refine mt_ltI hf (fun x11 ex11 hf => ?_)
      refine lv_iinc (v := x11) (lv' := [(3, .int x11), (0, .ref (E.2.1 133)), (1, .int a1), (2, .int a2)]) hx hb dX8_packsFor_32 hl (k := 3) rfl (by rw [ex11]; rfl) (by decide) rfl (fun ls hl => ?_)
      refine lv_goto (tgt := 2) hx hb dX8_packsFor_35 (by decide) ?_
      exact ih4 x11 M9 hf _ _ _ hH hS (lv_sub hl [1, 2, 3, 0] rfl)
    · have hf := mt_ifT c10 hf
      refine lv_iload_n hx hb dX8_packsFor_30 rfl (lv_at hl 3 rfl) ?_
      obtain ⟨i1, i2⟩ := mt_so2 hf
      subst i1
      subst i2
      exact mt_iret hx hb hr hI hH hS hlocks dX8_packsFor_31
set_option maxHeartbeats 4000000 in
set_option maxRecDepth 100000 in
theorem c_X8_noteCosts (l : Launch) (E : mt_E) (a1 : Int32) (M : mt_M) (u : mt_U) (M' : mt_M) (hf : f_X8_noteCosts a1 M = some (M')) : Met l yX8_noteCosts wsX8_noteCosts ({ frames := 5, cells := 0, slots := 0, locals := 114 } : Room) (mt_P E [.ref (E.2.1 133), .int a1] M u) (mt_Qv E M' u) 0 0 (mt_A E) := by
  refine Met.ofW (cc := cX8_noteCosts) (maxL := 4) (ret := none) (by decide) rfl ?_
  intro p e s mid args below meth c0 s₁ B hml hv
  obtain ⟨rfl, hI, hH⟩ := hv
  have hx := B.exec
  have hb := B.bytes
  have hr := B.returns
  have hts := atoms_spec (ws := wsX8_noteCosts) B.pre
  have hown : s.vm.findClass RX8 = some mid.cls := findClass_of_methodNamed B.named
  have hlocks := B.notSynchronized
  have hS : va_S (mt_A E) s.heap s.heap [] := va_S.rf
  have hl := lv_entry ([.ref (E.2.1 133), .int a1]) (n := 4) (Nat.le_of_ble_eq_true rfl)
  rw [lg_entry_eq]
  generalize (lg_sl ([.ref (E.2.1 133), .int a1]) ++ List.replicate (4 - (lg_sl ([.ref (E.2.1 133), .int a1])).length) Slot.unset).toArray = ls at hl ⊢
  have hl : lv_has ls 4 [(0, .ref (E.2.1 133)), (1, .int a1)] := hl
  unfold f_X8_noteCosts at hf
  have kw0 := hts (.fieldLink RX8 21 "MilkTwice$Mind" "house" "LMilkTwice$House;") (List.mem_of_getElem? (i := 1) rfl)
  have kw1 := hts (.fieldLink RX8 18 "MilkTwice$Mind" "cost" "[I") (List.mem_of_getElem? (i := 2) rfl)
  have hinX8 : ∀ w ∈ u_ws RX8 TX8 5, w ∈ wsX8_noteCosts := fun w h => List.mem_cons_of_mem _ (List.mem_append_left _ (List.mem_append_left _ (List.mem_append_right _ h)))
  have hinX4 : ∀ w ∈ u_ws RX4 TX4 6, w ∈ wsX8_noteCosts := fun w h => List.mem_cons_of_mem _ (List.mem_append_left _ (List.mem_append_right _ h))
  have hinX0 : ∀ w ∈ u_ws RX0 TX0 12, w ∈ wsX8_noteCosts := fun w h => List.mem_cons_of_mem _ (List.mem_append_right _ h)
  refine lv_iconst (v := 0) hx hb dX8_noteCosts_0 (by decide) ?_
  refine lv_istore_n (lv' := [(2, .int (0 : Int32)), (0, .ref (E.2.1 133)), (1, .int a1)]) hx hb dX8_noteCosts_1 rfl hl (by decide) rfl (fun ls hl => ?_)
  refine mt_lpI2 hf (fun (x1 : Int32) (M2 : mt_M) => ∀ (H : Heap) (locs : List Loc) (ls : Array Slot), mt_H E M2 u H → va_S (mt_A E) s.heap H locs → lv_has ls 4 [(0, .ref (E.2.1 133)), (1, .int a1), (2, .int x1)] → W p l e (headSpec wsX8_noteCosts ({ frames := 5, cells := 0, slots := 0, locals := 114 } : Room)).room s mid (([.ref (E.2.1 133), .int a1] : List Value).toArray) below meth c0 H locs 0 0 (MQ below (mt_Qv E M' u) (([.ref (E.2.1 133), .int a1] : List Value).toArray) s 0 0 (mt_A E)) (F0 mid 2 ls [])) ?_ _ _ _ hH hS (lv_sub hl [1, 2, 0] rfl)
  intro k3 ih4 x1 M2 hf H locs ls hH hS hl
  refine lv_iload_n hx hb dX8_noteCosts_2 rfl (lv_at hl 2 rfl) ?_
  refine lv_aload_n hx hb dX8_noteCosts_3 rfl (lv_at hl 0 rfl) ?_
  refine mt_getr (C := RX8) (T := TX8) (N := 5) hx hb hts hinX8 hown hI hH mt_T133 rfl 0 (by decide) kw0 rfl rfl dX8_noteCosts_4 ?_
  refine mt_getrN (C := RX4) (T := TX4) (N := 6) hx hb hts hinX4 hown hI hH mt_T10 rfl 0 (by decide) (List.mem_of_getElem? (i := 9) rfl) rfl rfl dX8_noteCosts_7 ?_
  refine mt_getiN (C := RX0) (T := TX0) (N := 12) hx hb hts hinX0 hown hI hH mt_T13 rfl 8 (by decide) (List.mem_of_getElem? (i := 1) rfl) rfl rfl dX8_noteCosts_10 ?_
  refine lv_icmp_ge (tgt := 59) hx hb dX8_noteCosts_13 (by decide) (fun c5 => ?_) (fun c5 => ?_)
  · have hf := mt_ifT c5 hf
    have i1 := mt_so1 hf
    subst i1
    exact mt_vret hx hb hr hI hH hS hlocks dX8_noteCosts_59
  · have hf := mt_ifF c5 hf
    refine lv_aload_n hx hb dX8_noteCosts_16 rfl (lv_at hl 0 rfl) ?_
    refine lv_iload_n hx hb dX8_noteCosts_17 rfl (lv_at hl 2 rfl) ?_
    refine lv_iload_n hx hb dX8_noteCosts_18 rfl (lv_at hl 1 rfl) ?_
    refine mt_b2I hf (fun r7 M8 hg6 hf => ?_)
    refine mt_goi (mt_runV (i := 133) (As := [.int x1, .int a1]) (rest := []) ⟨hx, hb, hml, hown, hts⟩ hI hH (c_X8_packsFor l E x1 a1 M2 u _ _ hg6) (cwV 2 hts gX8_noteCosts_X8_packsFor rfl rfl rfl (by decide +kernel) ⟨Nat.le_of_ble_eq_true rfl, Nat.le_of_ble_eq_true rfl⟩) mt_T133 rfl rfl hl.1 rfl (Nat.le_of_ble_eq_true rfl) dX8_noteCosts_19 ⟨Nat.zero_le _, Nat.zero_le _⟩) hS (fun H locs hH hS => ?_)
    refine lv_istore_n (lv' := [(3, .int r7), (0, .ref (E.2.1 133)), (1, .int a1), (2, .int x1)]) hx hb dX8_noteCosts_22 rfl hl (by decide) rfl (fun ls hl => ?_)
    refine lv_aload_n hx hb dX8_noteCosts_23 rfl (lv_at hl 1 rfl) ?_
    refine mt_getr (C := RX8) (T := TX8) (N := 5) hx hb hts hinX8 hown hI hH mt_T133 rfl 4 (by decide) kw1 rfl rfl dX8_noteCosts_24 ?_
    refine lv_iload_n hx hb dX8_noteCosts_27 rfl (lv_at hl 3 rfl) ?_
    refine lv_iload_n hx hb dX8_noteCosts_28 rfl (lv_at hl 0 rfl) ?_
    refine lv_bipush (v := 99) hx hb dX8_noteCosts_29 (by decide) ?_
    refine mt_jn1 hf (fun (v9 : Int32) => ∀ (H : Heap) (locs : List Loc) (ls : Array Slot), mt_H E M8 u H → va_S (mt_A E) s.heap H locs → lv_has ls 4 [(0, .ref (E.2.1 133)), (1, .int a1), (2, .int x1)] → W p l e (headSpec wsX8_noteCosts ({ frames := 5, cells := 0, slots := 0, locals := 114 } : Room)).room s mid (([.ref (E.2.1 133), .int a1] : List Value).toArray) below meth c0 H locs 0 0 (MQ below (mt_Qv E M' u) (([.ref (E.2.1 133), .int a1] : List Value).toArray) s 0 0 (mt_A E)) (F0 mid 52 ls [.int v9, .int x1, .ref (E.2.1 136)])) ?_ ?_
    · intro v9 hf H locs ls hH hS hl
      refine mt_ciI hf (fun q13 hf => ?_)
      refine mt_iast hx hb hI hH hS mt_T136 q13 dX8_noteCosts_52 (fun H locs hH hS => ?_)
      refine mt_ltI hf (fun M12 eM12 hf => ?_)
      rw [← eM12] at hH
      refine mt_ltI hf (fun x14 ex14 hf => ?_)
      refine lv_iinc (v := x14) (lv' := [(2, .int x14), (0, .ref (E.2.1 133)), (1, .int a1)]) hx hb dX8_noteCosts_53 hl (k := 2) rfl (by rw [ex14]; rfl) (by decide) rfl (fun ls hl => ?_)
      refine lv_goto (tgt := 2) hx hb dX8_noteCosts_56 (by decide) ?_
      exact ih4 x14 M12 hf _ _ _ hH hS (lv_sub hl [1, 2, 0] rfl)
    · intro j10 hj11 hf
      refine lv_icmp_ne (tgt := 39) hx hb dX8_noteCosts_31 (by decide) (fun c15 => ?_) (fun c15 => ?_)
      · have hf := mt_ifF c15 hf
        refine lv_iload_n hx hb dX8_noteCosts_39 rfl (lv_at hl 0 rfl) ?_
        refine lv_aload_n hx hb dX8_noteCosts_40 rfl (lv_at hl 1 rfl) ?_
        refine mt_getr (C := RX8) (T := TX8) (N := 5) hx hb hts hinX8 hown hI hH mt_T133 rfl 0 (by decide) kw0 rfl rfl dX8_noteCosts_41 ?_
        refine mt_getrN (C := RX4) (T := TX4) (N := 6) hx hb hts hinX4 hown hI hH mt_T10 rfl 0 (by decide) (List.mem_of_getElem? (i := 9) rfl) rfl rfl dX8_noteCosts_44 ?_
        refine lv_iload_n hx hb dX8_noteCosts_47 rfl (lv_at hl 3 rfl) ?_
        refine mt_b1I hf (fun r17 hg16 hf => ?_)
        refine mt_goi (mt_runV (i := 13) (As := [.int x1]) (rest := [.int r7, .int x1, .ref (E.2.1 136)]) ⟨hx, hb, hml, hown, hts⟩ hI hH (c_X0_priceOf l E 13 (by decide) x1 M8 u _ hg16) (cwV 1 hts gX8_noteCosts_X0_priceOf rfl rfl rfl (by decide +kernel) ⟨Nat.le_of_ble_eq_true rfl, Nat.le_of_ble_eq_true rfl⟩) mt_T13 rfl rfl hl.1 rfl (Nat.le_of_ble_eq_true rfl) dX8_noteCosts_48 ⟨Nat.zero_le _, Nat.zero_le _⟩) hS (fun H locs hH hS => ?_)
        refine lv_imul hx hb dX8_noteCosts_51 ?_
        exact hj11 (r7 * r17) hf _ _ _ hH hS (lv_sub hl [1, 2, 3] rfl)
      · have hf := mt_ifT c15 hf
        refine lv_bipush (v := (-9)) hx hb dX8_noteCosts_34 (by decide) ?_
        refine lv_goto (tgt := 52) hx hb dX8_noteCosts_36 (by decide) ?_
        exact hj11 (-9 : Int32) hf _ _ _ hH hS (lv_sub hl [1, 2, 3] rfl)
set_option maxHeartbeats 4000000 in
set_option maxRecDepth 100000 in
theorem c_X8_penceForAll (l : Launch) (E : mt_E)  (M : mt_M) (u : mt_U) (r : Int32) (hf : f_X8_penceForAll M = some (r)) : Met l yX8_penceForAll wsX8_penceForAll ({ frames := 1, cells := 0, slots := 0, locals := 21 } : Room) (mt_P E [.ref (E.2.1 133)] M u) (mt_Qi E r M u) 0 0 (mt_A E) := by
  refine Met.ofW (cc := cX8_penceForAll) (maxL := 3) (ret := (some .int)) (by decide) rfl ?_
  intro p e s mid args below meth c0 s₁ B hml hv
  obtain ⟨rfl, hI, hH⟩ := hv
  have hx := B.exec
  have hb := B.bytes
  have hr := B.returns
  have hts := atoms_spec (ws := wsX8_penceForAll) B.pre
  have hown : s.vm.findClass RX8 = some mid.cls := findClass_of_methodNamed B.named
  have hlocks := B.notSynchronized
  have hS : va_S (mt_A E) s.heap s.heap [] := va_S.rf
  have hl := lv_entry ([.ref (E.2.1 133)]) (n := 3) (Nat.le_of_ble_eq_true rfl)
  rw [lg_entry_eq]
  generalize (lg_sl ([.ref (E.2.1 133)]) ++ List.replicate (3 - (lg_sl ([.ref (E.2.1 133)])).length) Slot.unset).toArray = ls at hl ⊢
  have hl : lv_has ls 3 [(0, .ref (E.2.1 133))] := hl
  unfold f_X8_penceForAll at hf
  have kw0 := hts (.fieldLink RX8 21 "MilkTwice$Mind" "house" "LMilkTwice$House;") (List.mem_of_getElem? (i := 1) rfl)
  have kw1 := hts (.fieldLink RX8 18 "MilkTwice$Mind" "cost" "[I") (List.mem_of_getElem? (i := 2) rfl)
  have kw2 := hts (.methodLink RX8 98 Lib.Math.max.name) (List.mem_of_getElem? (i := 3) rfl)
  have kw3 := hts (.static Lib.Math.max.name) (List.mem_of_getElem? (i := 4) rfl)
  have kw4 := hts (.initialized "java/lang/Math") (List.mem_of_getElem? (i := 5) rfl)
  have kw5 := hts (.code Lib.Math.max.name Lib.Math.max.code 2 (some .int)) (List.mem_of_getElem? (i := 6) rfl)
  have hinX8 : ∀ w ∈ u_ws RX8 TX8 5, w ∈ wsX8_penceForAll := fun w h => List.mem_cons_of_mem _ (List.mem_append_left _ (List.mem_append_left _ (List.mem_append_right _ h)))
  have hinX4 : ∀ w ∈ u_ws RX4 TX4 6, w ∈ wsX8_penceForAll := fun w h => List.mem_cons_of_mem _ (List.mem_append_left _ (List.mem_append_right _ h))
  have hinX0 : ∀ w ∈ u_ws RX0 TX0 12, w ∈ wsX8_penceForAll := fun w h => List.mem_cons_of_mem _ (List.mem_append_right _ h)
  refine lv_iconst (v := 0) hx hb dX8_penceForAll_0 (by decide) ?_
  refine lv_istore_n (lv' := [(1, .int (0 : Int32)), (0, .ref (E.2.1 133))]) hx hb dX8_penceForAll_1 rfl hl (by decide) rfl (fun ls hl => ?_)
  refine lv_iconst (v := 0) hx hb dX8_penceForAll_2 (by decide) ?_
  refine lv_istore_n (lv' := [(2, .int (0 : Int32)), (1, .int (0 : Int32)), (0, .ref (E.2.1 133))]) hx hb dX8_penceForAll_3 rfl hl (by decide) rfl (fun ls hl => ?_)
  refine mt_lpI2 hf (fun (x1 : Int32) (x2 : Int32) => ∀ (H : Heap) (locs : List Loc) (ls : Array Slot), mt_H E M u H → va_S (mt_A E) s.heap H locs → lv_has ls 3 [(0, .ref (E.2.1 133)), (1, .int x1), (2, .int x2)] → W p l e (headSpec wsX8_penceForAll ({ frames := 1, cells := 0, slots := 0, locals := 21 } : Room)).room s mid (([.ref (E.2.1 133)] : List Value).toArray) below meth c0 H locs 0 0 (MQ below (mt_Qi E r M u) (([.ref (E.2.1 133)] : List Value).toArray) s 0 0 (mt_A E)) (F0 mid 4 ls [])) ?_ _ _ _ hH hS (lv_sub hl [2, 1, 0] rfl)
  intro k3 ih4 x1 x2 hf H locs ls hH hS hl
  refine lv_iload_n hx hb dX8_penceForAll_4 rfl (lv_at hl 2 rfl) ?_
  refine lv_aload_n hx hb dX8_penceForAll_5 rfl (lv_at hl 0 rfl) ?_
  refine mt_getr (C := RX8) (T := TX8) (N := 5) hx hb hts hinX8 hown hI hH mt_T133 rfl 0 (by decide) kw0 rfl rfl dX8_penceForAll_6 ?_
  refine mt_getrN (C := RX4) (T := TX4) (N := 6) hx hb hts hinX4 hown hI hH mt_T10 rfl 0 (by decide) (List.mem_of_getElem? (i := 9) rfl) rfl rfl dX8_penceForAll_9 ?_
  refine mt_getiN (C := RX0) (T := TX0) (N := 12) hx hb hts hinX0 hown hI hH mt_T13 rfl 8 (by decide) (List.mem_of_getElem? (i := 1) rfl) rfl rfl dX8_penceForAll_12 ?_
  refine lv_icmp_ge (tgt := 37) hx hb dX8_penceForAll_15 (by decide) (fun c5 => ?_) (fun c5 => ?_)
  · have hf := mt_ifT c5 hf
    refine lv_iload_n hx hb dX8_penceForAll_37 rfl (lv_at hl 1 rfl) ?_
    have i1 := mt_so1 hf
    subst i1
    exact mt_iret hx hb hr hI hH hS hlocks dX8_penceForAll_38
  · have hf := mt_ifF c5 hf
    refine lv_iload_n hx hb dX8_penceForAll_18 rfl (lv_at hl 1 rfl) ?_
    refine lv_iconst (v := 0) hx hb dX8_penceForAll_19 (by decide) ?_
    refine lv_aload_n hx hb dX8_penceForAll_20 rfl (lv_at hl 0 rfl) ?_
    refine mt_getr (C := RX8) (T := TX8) (N := 5) hx hb hts hinX8 hown hI hH mt_T133 rfl 4 (by decide) kw1 rfl rfl dX8_penceForAll_21 ?_
    refine lv_iload_n hx hb dX8_penceForAll_24 rfl (lv_at hl 2 rfl) ?_
    refine mt_ciI hf (fun q6 hf => ?_)
    refine mt_iald hx hb hI hH mt_T136 q6 dX8_penceForAll_25 ?_
    refine va_mmax hx hb (hml.trans hl.1.symm) hown kw2 kw3 kw4 kw5 (Nat.le_of_ble_eq_true rfl) (Nat.le_of_ble_eq_true rfl) (Nat.zero_le _) (Nat.zero_le _) dX8_penceForAll_26 ?_
    refine mt_lti hf (fun x7 ex7 hf => ?_)
    refine lv_iadd hx hb dX8_penceForAll_29 ?_
    refine mt_lti hf (fun x8 ex8 hf => ?_)
    refine lv_istore_n (lv' := [(1, .int x8), (0, .ref (E.2.1 133)), (2, .int x2)]) hx hb dX8_penceForAll_30 rfl hl (by decide) rfl (fun ls hl => ?_)
    refine mt_ltI hf (fun x9 ex9 hf => ?_)
    refine lv_iinc (v := x9) (lv' := [(2, .int x9), (1, .int x8), (0, .ref (E.2.1 133))]) hx hb dX8_penceForAll_31 hl (k := 2) rfl (by rw [ex9]; rfl) (by decide) rfl (fun ls hl => ?_)
    refine lv_goto (tgt := 4) hx hb dX8_penceForAll_34 (by decide) ?_
    exact ih4 x8 x9 hf _ _ _ hH hS (lv_sub hl [2, 1, 0] rfl)
set_option maxHeartbeats 4000000 in
set_option maxRecDepth 100000 in
theorem c_X8_cheapestThing (l : Launch) (E : mt_E)  (M : mt_M) (u : mt_U) (r : Int32) (hf : f_X8_cheapestThing M = some (r)) : Met l yX8_cheapestThing wsX8_cheapestThing ({ frames := 0, cells := 0, slots := 0, locals := 0 } : Room) (mt_P E [.ref (E.2.1 133)] M u) (mt_Qi E r M u) 0 0 (mt_A E) := by
  refine Met.ofW (cc := cX8_cheapestThing) (maxL := 3) (ret := (some .int)) (by decide) rfl ?_
  intro p e s mid args below meth c0 s₁ B hml hv
  obtain ⟨rfl, hI, hH⟩ := hv
  have hx := B.exec
  have hb := B.bytes
  have hr := B.returns
  have hts := atoms_spec (ws := wsX8_cheapestThing) B.pre
  have hown : s.vm.findClass RX8 = some mid.cls := findClass_of_methodNamed B.named
  have hlocks := B.notSynchronized
  have hS : va_S (mt_A E) s.heap s.heap [] := va_S.rf
  have hl := lv_entry ([.ref (E.2.1 133)]) (n := 3) (Nat.le_of_ble_eq_true rfl)
  rw [lg_entry_eq]
  generalize (lg_sl ([.ref (E.2.1 133)]) ++ List.replicate (3 - (lg_sl ([.ref (E.2.1 133)])).length) Slot.unset).toArray = ls at hl ⊢
  have hl : lv_has ls 3 [(0, .ref (E.2.1 133))] := hl
  unfold f_X8_cheapestThing at hf
  have kw0 := hts (.fieldLink RX8 21 "MilkTwice$Mind" "house" "LMilkTwice$House;") (List.mem_of_getElem? (i := 1) rfl)
  have kw1 := hts (.fieldLink RX8 18 "MilkTwice$Mind" "cost" "[I") (List.mem_of_getElem? (i := 2) rfl)
  have hinX8 : ∀ w ∈ u_ws RX8 TX8 5, w ∈ wsX8_cheapestThing := fun w h => List.mem_cons_of_mem _ (List.mem_append_left _ (List.mem_append_left _ (List.mem_append_right _ h)))
  have hinX4 : ∀ w ∈ u_ws RX4 TX4 6, w ∈ wsX8_cheapestThing := fun w h => List.mem_cons_of_mem _ (List.mem_append_left _ (List.mem_append_right _ h))
  have hinX0 : ∀ w ∈ u_ws RX0 TX0 12, w ∈ wsX8_cheapestThing := fun w h => List.mem_cons_of_mem _ (List.mem_append_right _ h)
  refine lv_bipush (v := (-9)) hx hb dX8_cheapestThing_0 (by decide) ?_
  refine lv_istore_n (lv' := [(1, .int (-9 : Int32)), (0, .ref (E.2.1 133))]) hx hb dX8_cheapestThing_2 rfl hl (by decide) rfl (fun ls hl => ?_)
  refine lv_iconst (v := 0) hx hb dX8_cheapestThing_3 (by decide) ?_
  refine lv_istore_n (lv' := [(2, .int (0 : Int32)), (1, .int (-9 : Int32)), (0, .ref (E.2.1 133))]) hx hb dX8_cheapestThing_4 rfl hl (by decide) rfl (fun ls hl => ?_)
  refine mt_lpI2 hf (fun (x1 : Int32) (x2 : Int32) => ∀ (H : Heap) (locs : List Loc) (ls : Array Slot), mt_H E M u H → va_S (mt_A E) s.heap H locs → lv_has ls 3 [(0, .ref (E.2.1 133)), (1, .int x1), (2, .int x2)] → W p l e (headSpec wsX8_cheapestThing ({ frames := 0, cells := 0, slots := 0, locals := 0 } : Room)).room s mid (([.ref (E.2.1 133)] : List Value).toArray) below meth c0 H locs 0 0 (MQ below (mt_Qi E r M u) (([.ref (E.2.1 133)] : List Value).toArray) s 0 0 (mt_A E)) (F0 mid 5 ls [])) ?_ _ _ _ hH hS (lv_sub hl [2, 1, 0] rfl)
  intro k3 ih4 x1 x2 hf H locs ls hH hS hl
  refine lv_iload_n hx hb dX8_cheapestThing_5 rfl (lv_at hl 2 rfl) ?_
  refine lv_aload_n hx hb dX8_cheapestThing_6 rfl (lv_at hl 0 rfl) ?_
  refine mt_getr (C := RX8) (T := TX8) (N := 5) hx hb hts hinX8 hown hI hH mt_T133 rfl 0 (by decide) kw0 rfl rfl dX8_cheapestThing_7 ?_
  refine mt_getrN (C := RX4) (T := TX4) (N := 6) hx hb hts hinX4 hown hI hH mt_T10 rfl 0 (by decide) (List.mem_of_getElem? (i := 9) rfl) rfl rfl dX8_cheapestThing_10 ?_
  refine mt_getiN (C := RX0) (T := TX0) (N := 12) hx hb hts hinX0 hown hI hH mt_T13 rfl 8 (by decide) (List.mem_of_getElem? (i := 1) rfl) rfl rfl dX8_cheapestThing_13 ?_
  refine lv_icmp_ge (tgt := 59) hx hb dX8_cheapestThing_16 (by decide) (fun c5 => ?_) (fun c5 => ?_)
  · have hf := mt_ifT c5 hf
    refine lv_iload_n hx hb dX8_cheapestThing_59 rfl (lv_at hl 1 rfl) ?_
    have i1 := mt_so1 hf
    subst i1
    exact mt_iret hx hb hr hI hH hS hlocks dX8_cheapestThing_60
  · have hf := mt_ifF c5 hf
    refine lv_aload_n hx hb dX8_cheapestThing_19 rfl (lv_at hl 0 rfl) ?_
    refine mt_getr (C := RX8) (T := TX8) (N := 5) hx hb hts hinX8 hown hI hH mt_T133 rfl 4 (by decide) kw1 rfl rfl dX8_cheapestThing_20 ?_
    refine lv_iload_n hx hb dX8_cheapestThing_23 rfl (lv_at hl 2 rfl) ?_
    refine mt_ciI hf (fun q6 hf => ?_)
    refine mt_iald hx hb hI hH mt_T136 q6 dX8_cheapestThing_24 ?_
    refine lv_bipush (v := (-9)) hx hb dX8_cheapestThing_25 (by decide) ?_
    refine mt_jn1 hf (fun (x7 : Int32) => ∀ (H : Heap) (locs : List Loc) (ls : Array Slot), mt_H E M u H → va_S (mt_A E) s.heap H locs → lv_has ls 3 [(0, .ref (E.2.1 133)), (1, .int x7), (2, .int x2)] → W p l e (headSpec wsX8_cheapestThing ({ frames := 0, cells := 0, slots := 0, locals := 0 } : Room)).room s mid (([.ref (E.2.1 133)] : List Value).toArray) below meth c0 H locs 0 0 (MQ below (mt_Qi E r M u) (([.ref (E.2.1 133)] : List Value).toArray) s 0 0 (mt_A E)) (F0 mid 53 ls [])) ?_ ?_
    · intro x7 hf H locs ls hH hS hl
      refine mt_ltI hf (fun x10 ex10 hf => ?_)
      refine lv_iinc (v := x10) (lv' := [(2, .int x10), (0, .ref (E.2.1 133)), (1, .int x7)]) hx hb dX8_cheapestThing_53 hl (k := 2) rfl (by rw [ex10]; rfl) (by decide) rfl (fun ls hl => ?_)
      refine lv_goto (tgt := 5) hx hb dX8_cheapestThing_56 (by decide) ?_
      exact ih4 x7 x10 hf _ _ _ hH hS (lv_sub hl [1, 2, 0] rfl)
    · intro j8 hj9 hf
      refine lv_icmp_eq (tgt := 53) hx hb dX8_cheapestThing_27 (by decide) (fun c11 => ?_) (fun c11 => ?_)
      · have hf := mt_ifT c11 hf
        exact hj9 x1 hf _ _ _ hH hS (lv_sub hl [0, 1, 2] rfl)
      · have hf := mt_ifF c11 hf
        refine lv_iload_n hx hb dX8_cheapestThing_30 rfl (lv_at hl 1 rfl) ?_
        refine lv_bipush (v := (-9)) hx hb dX8_cheapestThing_31 (by decide) ?_
        refine mt_jn0 hf (∀ (H : Heap) (locs : List Loc) (ls : Array Slot), mt_H E M u H → va_S (mt_A E) s.heap H locs → lv_has ls 3 [(0, .ref (E.2.1 133)), (2, .int x2)] → W p l e (headSpec wsX8_cheapestThing ({ frames := 0, cells := 0, slots := 0, locals := 0 } : Room)).room s mid (([.ref (E.2.1 133)] : List Value).toArray) below meth c0 H locs 0 0 (MQ below (mt_Qi E r M u) (([.ref (E.2.1 133)] : List Value).toArray) s 0 0 (mt_A E)) (F0 mid 51 ls [])) ?_ ?_
        · intro hf H locs ls hH hS hl
          refine lv_iload_n hx hb dX8_cheapestThing_51 rfl (lv_at hl 1 rfl) ?_
          refine lv_istore_n (lv' := [(1, .int x2), (0, .ref (E.2.1 133)), (2, .int x2)]) hx hb dX8_cheapestThing_52 rfl hl (by decide) rfl (fun ls hl => ?_)
          exact hj9 x2 hf _ _ _ hH hS (lv_sub hl [1, 0, 2] rfl)
        · intro j12 hj13 hf
          refine lv_icmp_eq (tgt := 51) hx hb dX8_cheapestThing_33 (by decide) (fun c14 => ?_) (fun c14 => ?_)
          · have hf := mt_ifT c14 hf
            exact hj13 hf _ _ _ hH hS (lv_sub hl [0, 2] rfl)
          · have hf := mt_ifF c14 hf
            refine lv_aload_n hx hb dX8_cheapestThing_36 rfl (lv_at hl 0 rfl) ?_
            refine mt_getr (C := RX8) (T := TX8) (N := 5) hx hb hts hinX8 hown hI hH mt_T133 rfl 4 (by decide) kw1 rfl rfl dX8_cheapestThing_37 ?_
            refine lv_iload_n hx hb dX8_cheapestThing_40 rfl (lv_at hl 2 rfl) ?_
            refine mt_ciI hf (fun q15 hf => ?_)
            refine mt_iald hx hb hI hH mt_T136 q15 dX8_cheapestThing_41 ?_
            refine lv_aload_n hx hb dX8_cheapestThing_42 rfl (lv_at hl 0 rfl) ?_
            refine mt_getr (C := RX8) (T := TX8) (N := 5) hx hb hts hinX8 hown hI hH mt_T133 rfl 4 (by decide) kw1 rfl rfl dX8_cheapestThing_43 ?_
            refine lv_iload_n hx hb dX8_cheapestThing_46 rfl (lv_at hl 1 rfl) ?_
            refine mt_ciI hf (fun q16 hf => ?_)
            refine mt_iald hx hb hI hH mt_T136 q16 dX8_cheapestThing_47 ?_
            refine lv_icmp_ge (tgt := 53) hx hb dX8_cheapestThing_48 (by decide) (fun c17 => ?_) (fun c17 => ?_)
            · have hf := mt_ifT c17 hf
              exact hj9 x1 hf _ _ _ hH hS (lv_sub hl [0, 1, 2] rfl)
            · have hf := mt_ifF c17 hf
              exact hj13 hf _ _ _ hH hS (lv_sub hl [0, 2] rfl)
set_option maxHeartbeats 4000000 in
set_option maxRecDepth 100000 in
theorem c_X8_fewestPence (l : Launch) (E : mt_E) (a1 : Int32) (M : mt_M) (u : mt_U) (r : Int32) (M' : mt_M) (hf : f_X8_fewestPence a1 M = some (r, M')) : Met l yX8_fewestPence wsX8_fewestPence ({ frames := 1, cells := 0, slots := 0, locals := 22 } : Room) (mt_P E [.ref (E.2.1 133), .int a1] M u) (mt_Qi E r M' u) 0 0 (mt_A E) := by
  refine Met.ofW (cc := cX8_fewestPence) (maxL := 5) (ret := (some .int)) (by decide) rfl ?_
  intro p e s mid args below meth c0 s₁ B hml hv
  obtain ⟨rfl, hI, hH⟩ := hv
  have hx := B.exec
  have hb := B.bytes
  have hr := B.returns
  have hts := atoms_spec (ws := wsX8_fewestPence) B.pre
  have hown : s.vm.findClass RX8 = some mid.cls := findClass_of_methodNamed B.named
  have hlocks := B.notSynchronized
  have hS : va_S (mt_A E) s.heap s.heap [] := va_S.rf
  have hl := lv_entry ([.ref (E.2.1 133), .int a1]) (n := 5) (Nat.le_of_ble_eq_true rfl)
  rw [lg_entry_eq]
  generalize (lg_sl ([.ref (E.2.1 133), .int a1]) ++ List.replicate (5 - (lg_sl ([.ref (E.2.1 133), .int a1])).length) Slot.unset).toArray = ls at hl ⊢
  have hl : lv_has ls 5 [(0, .ref (E.2.1 133)), (1, .int a1)] := hl
  unfold f_X8_fewestPence at hf
  have kw0 := hts (.fieldLink RX8 18 "MilkTwice$Mind" "cost" "[I") (List.mem_of_getElem? (i := 1) rfl)
  have hinX8 : ∀ w ∈ u_ws RX8 TX8 5, w ∈ wsX8_fewestPence := fun w h => List.mem_cons_of_mem _ (List.mem_append_left _ (List.mem_append_left _ (List.mem_append_right _ h)))
  refine lv_iconst (v := 0) hx hb dX8_fewestPence_0 (by decide) ?_
  refine lv_istore_n (lv' := [(2, .int (0 : Int32)), (0, .ref (E.2.1 133)), (1, .int a1)]) hx hb dX8_fewestPence_1 rfl hl (by decide) rfl (fun ls hl => ?_)
  refine lv_iconst (v := 0) hx hb dX8_fewestPence_2 (by decide) ?_
  refine lv_istore_n (lv' := [(3, .int (0 : Int32)), (2, .int (0 : Int32)), (0, .ref (E.2.1 133)), (1, .int a1)]) hx hb dX8_fewestPence_3 rfl hl (by decide) rfl (fun ls hl => ?_)
  refine mt_lpI3 hf (fun (x1 : Int32) (x2 : Int32) (M3 : mt_M) => ∀ (H : Heap) (locs : List Loc) (ls : Array Slot), mt_H E M3 u H → va_S (mt_A E) s.heap H locs → lv_has ls 5 [(0, .ref (E.2.1 133)), (1, .int a1), (2, .int x1), (3, .int x2)] → W p l e (headSpec wsX8_fewestPence ({ frames := 1, cells := 0, slots := 0, locals := 22 } : Room)).room s mid (([.ref (E.2.1 133), .int a1] : List Value).toArray) below meth c0 H locs 0 0 (MQ below (mt_Qi E r M' u) (([.ref (E.2.1 133), .int a1] : List Value).toArray) s 0 0 (mt_A E)) (F0 mid 4 ls [])) ?_ _ _ _ hH hS (lv_sub hl [2, 3, 1, 0] rfl)
  intro k4 ih5 x1 x2 M3 hf H locs ls hH hS hl
  refine lv_iload_n hx hb dX8_fewestPence_4 rfl (lv_at hl 3 rfl) ?_
  refine lv_iload_n hx hb dX8_fewestPence_5 rfl (lv_at hl 1 rfl) ?_
  refine lv_icmp_ge (tgt := 50) hx hb dX8_fewestPence_6 (by decide) (fun c6 => ?_) (fun c6 => ?_)
  · have hf := mt_ifT c6 hf
    refine lv_iload_n hx hb dX8_fewestPence_50 rfl (lv_at hl 2 rfl) ?_
    obtain ⟨i1, i2⟩ := mt_so2 hf
    subst i1
    subst i2
    exact mt_iret hx hb hr hI hH hS hlocks dX8_fewestPence_51
  · have hf := mt_ifF c6 hf
    refine lv_aload_n hx hb dX8_fewestPence_9 rfl (lv_at hl 0 rfl) ?_
    refine mt_b1I hf (fun r8 hg7 hf => ?_)
    refine mt_goi (mt_runV (i := 133) (As := []) (rest := []) ⟨hx, hb, hml, hown, hts⟩ hI hH (c_X8_cheapestThing l E M3 u _ hg7) (cwV 0 hts gX8_fewestPence_X8_cheapestThing rfl rfl rfl (by decide +kernel) ⟨Nat.le_of_ble_eq_true rfl, Nat.le_of_ble_eq_true rfl⟩) mt_T133 rfl rfl hl.1 rfl (Nat.le_of_ble_eq_true rfl) dX8_fewestPence_10 ⟨Nat.zero_le _, Nat.zero_le _⟩) hS (fun H locs hH hS => ?_)
    refine lv_istore (lv' := [(4, .int r8), (0, .ref (E.2.1 133)), (1, .int a1), (2, .int x1), (3, .int x2)]) hx hb dX8_fewestPence_13 hl (by decide) rfl (fun ls hl => ?_)
    refine lv_iload hx hb dX8_fewestPence_15 (lv_at hl 0 rfl) ?_
    refine lv_bipush (v := (-9)) hx hb dX8_fewestPence_17 (by decide) ?_
    refine lv_icmp_ne (tgt := 25) hx hb dX8_fewestPence_19 (by decide) (fun c9 => ?_) (fun c9 => ?_)
    · have hf := mt_ifF c9 hf
      refine lv_iload_n hx hb dX8_fewestPence_25 rfl (lv_at hl 3 rfl) ?_
      refine lv_aload_n hx hb dX8_fewestPence_26 rfl (lv_at hl 1 rfl) ?_
      refine mt_getr (C := RX8) (T := TX8) (N := 5) hx hb hts hinX8 hown hI hH mt_T133 rfl 4 (by decide) kw0 rfl rfl dX8_fewestPence_27 ?_
      refine lv_iload hx hb dX8_fewestPence_30 (lv_at hl 0 rfl) ?_
      refine mt_ciI hf (fun q10 hf => ?_)
      refine mt_iald hx hb hI hH mt_T136 q10 dX8_fewestPence_32 ?_
      refine lv_iadd hx hb dX8_fewestPence_33 ?_
      refine mt_lti hf (fun x11 ex11 hf => ?_)
      refine lv_istore_n (lv' := [(2, .int x11), (4, .int r8), (0, .ref (E.2.1 133)), (1, .int a1), (3, .int x2)]) hx hb dX8_fewestPence_34 rfl hl (by decide) rfl (fun ls hl => ?_)
      refine lv_aload_n hx hb dX8_fewestPence_35 rfl (lv_at hl 2 rfl) ?_
      refine mt_getr (C := RX8) (T := TX8) (N := 5) hx hb hts hinX8 hown hI hH mt_T133 rfl 4 (by decide) kw0 rfl rfl dX8_fewestPence_36 ?_
      refine lv_iload hx hb dX8_fewestPence_39 (lv_at hl 1 rfl) ?_
      refine lv_bipush (v := (-9)) hx hb dX8_fewestPence_41 (by decide) ?_
      refine mt_ciI hf (fun q13 hf => ?_)
      refine mt_iast hx hb hI hH hS mt_T136 q13 dX8_fewestPence_43 (fun H locs hH hS => ?_)
      refine mt_ltI hf (fun M12 eM12 hf => ?_)
      rw [← eM12] at hH
      refine mt_ltI hf (fun x14 ex14 hf => ?_)
      refine lv_iinc (v := x14) (lv' := [(3, .int x14), (2, .int x11), (4, .int r8), (0, .ref (E.2.1 133)), (1, .int a1)]) hx hb dX8_fewestPence_44 hl (k := 4) rfl (by rw [ex14]; rfl) (by decide) rfl (fun ls hl => ?_)
      refine lv_goto (tgt := 4) hx hb dX8_fewestPence_47 (by decide) ?_
      exact ih5 x11 x14 M12 hf _ _ _ hH hS (lv_sub hl [3, 4, 1, 0] rfl)
    · have hf := mt_ifT c9 hf
      refine lv_bipush (v := (-9)) hx hb dX8_fewestPence_22 (by decide) ?_
      obtain ⟨i1, i2⟩ := mt_so2 hf
      subst i1
      subst i2
      exact mt_iret hx hb hr hI hH hS hlocks dX8_fewestPence_24
set_option maxHeartbeats 4000000 in
set_option maxRecDepth 100000 in
theorem c_X8_weighPacks (l : Launch) (E : mt_E)  (M : mt_M) (u : mt_U) (M' : mt_M) (hf : f_X8_weighPacks M = some (M')) : Met l yX8_weighPacks wsX8_weighPacks ({ frames := 4, cells := 0, slots := 0, locals := 91 } : Room) (mt_P E [.ref (E.2.1 133)] M u) (mt_Qv E M' u) 0 0 (mt_A E) := by
  refine Met.ofW (cc := cX8_weighPacks) (maxL := 2) (ret := none) (by decide) rfl ?_
  intro p e s mid args below meth c0 s₁ B hml hv
  obtain ⟨rfl, hI, hH⟩ := hv
  have hx := B.exec
  have hb := B.bytes
  have hr := B.returns
  have hts := atoms_spec (ws := wsX8_weighPacks) B.pre
  have hown : s.vm.findClass RX8 = some mid.cls := findClass_of_methodNamed B.named
  have hlocks := B.notSynchronized
  have hS : va_S (mt_A E) s.heap s.heap [] := va_S.rf
  have hl := lv_entry ([.ref (E.2.1 133)]) (n := 2) (Nat.le_of_ble_eq_true rfl)
  rw [lg_entry_eq]
  generalize (lg_sl ([.ref (E.2.1 133)]) ++ List.replicate (2 - (lg_sl ([.ref (E.2.1 133)])).length) Slot.unset).toArray = ls at hl ⊢
  have hl : lv_has ls 2 [(0, .ref (E.2.1 133))] := hl
  unfold f_X8_weighPacks at hf
  have kw0 := hts (.fieldLink RX8 21 "MilkTwice$Mind" "house" "LMilkTwice$House;") (List.mem_of_getElem? (i := 1) rfl)
  have kw1 := hts (.fieldLink RX8 9 "MilkTwice$Mind" "lackedWithout" "[I") (List.mem_of_getElem? (i := 2) rfl)
  have kw2 := hts (.fieldLink RX8 30 "MilkTwice$Mind" "shelf" "LMilkTwice$Cupboard;") (List.mem_of_getElem? (i := 3) rfl)
  have kw3 := hts (.fieldLink RX8 15 "MilkTwice$Mind" "lackedWith" "[I") (List.mem_of_getElem? (i := 4) rfl)
  have hinX8 : ∀ w ∈ u_ws RX8 TX8 5, w ∈ wsX8_weighPacks := fun w h => List.mem_cons_of_mem _ (List.mem_append_left _ (List.mem_append_left _ (List.mem_append_right _ h)))
  have hinX4 : ∀ w ∈ u_ws RX4 TX4 6, w ∈ wsX8_weighPacks := fun w h => List.mem_cons_of_mem _ (List.mem_append_left _ (List.mem_append_right _ h))
  have hinX0 : ∀ w ∈ u_ws RX0 TX0 12, w ∈ wsX8_weighPacks := fun w h => List.mem_cons_of_mem _ (List.mem_append_right _ h)
  refine lv_iconst (v := 0) hx hb dX8_weighPacks_0 (by decide) ?_
  refine lv_istore_n (lv' := [(1, .int (0 : Int32)), (0, .ref (E.2.1 133))]) hx hb dX8_weighPacks_1 rfl hl (by decide) rfl (fun ls hl => ?_)
  refine mt_lpI2 hf (fun (x1 : Int32) (M2 : mt_M) => ∀ (H : Heap) (locs : List Loc) (ls : Array Slot), mt_H E M2 u H → va_S (mt_A E) s.heap H locs → lv_has ls 2 [(0, .ref (E.2.1 133)), (1, .int x1)] → W p l e (headSpec wsX8_weighPacks ({ frames := 4, cells := 0, slots := 0, locals := 91 } : Room)).room s mid (([.ref (E.2.1 133)] : List Value).toArray) below meth c0 H locs 0 0 (MQ below (mt_Qv E M' u) (([.ref (E.2.1 133)] : List Value).toArray) s 0 0 (mt_A E)) (F0 mid 2 ls [])) ?_ _ _ _ hH hS (lv_sub hl [1, 0] rfl)
  intro k3 ih4 x1 M2 hf H locs ls hH hS hl
  refine lv_iload_n hx hb dX8_weighPacks_2 rfl (lv_at hl 1 rfl) ?_
  refine lv_aload_n hx hb dX8_weighPacks_3 rfl (lv_at hl 0 rfl) ?_
  refine mt_getr (C := RX8) (T := TX8) (N := 5) hx hb hts hinX8 hown hI hH mt_T133 rfl 0 (by decide) kw0 rfl rfl dX8_weighPacks_4 ?_
  refine mt_getrN (C := RX4) (T := TX4) (N := 6) hx hb hts hinX4 hown hI hH mt_T10 rfl 0 (by decide) (List.mem_of_getElem? (i := 9) rfl) rfl rfl dX8_weighPacks_7 ?_
  refine mt_getiN (C := RX0) (T := TX0) (N := 12) hx hb hts hinX0 hown hI hH mt_T13 rfl 8 (by decide) (List.mem_of_getElem? (i := 1) rfl) rfl rfl dX8_weighPacks_10 ?_
  refine lv_icmp_ge (tgt := 74) hx hb dX8_weighPacks_13 (by decide) (fun c5 => ?_) (fun c5 => ?_)
  · have hf := mt_ifT c5 hf
    have i1 := mt_so1 hf
    subst i1
    exact mt_vret hx hb hr hI hH hS hlocks dX8_weighPacks_74
  · have hf := mt_ifF c5 hf
    refine lv_aload_n hx hb dX8_weighPacks_16 rfl (lv_at hl 0 rfl) ?_
    refine lv_iload_n hx hb dX8_weighPacks_17 rfl (lv_at hl 1 rfl) ?_
    refine lv_aload_n hx hb dX8_weighPacks_18 rfl (lv_at hl 0 rfl) ?_
    refine lv_iload_n hx hb dX8_weighPacks_19 rfl (lv_at hl 1 rfl) ?_
    refine lv_iconst (v := 0) hx hb dX8_weighPacks_20 (by decide) ?_
    refine mt_b1I hf (fun r7 hg6 hf => ?_)
    refine mt_goi (mt_runV (i := 133) (As := [.int x1, .int (0 : Int32)]) (rest := [.int x1, .ref (E.2.1 133)]) ⟨hx, hb, hml, hown, hts⟩ hI hH (c_X8_stockWith l E x1 (0 : Int32) M2 u _ hg6) (cwV 2 hts gX8_weighPacks_X8_stockWith rfl rfl rfl (by decide +kernel) ⟨Nat.le_of_ble_eq_true rfl, Nat.le_of_ble_eq_true rfl⟩) mt_T133 rfl rfl hl.1 rfl (Nat.le_of_ble_eq_true rfl) dX8_weighPacks_21 ⟨Nat.zero_le _, Nat.zero_le _⟩) hS (fun H locs hH hS => ?_)
    refine lv_bipush (v := 7) hx hb dX8_weighPacks_24 (by decide) ?_
    refine mt_b1I hf (fun M9 hg8 hf => ?_)
    refine mt_gov (mt_runV (i := 133) (As := [.int x1, .int r7, .int (7 : Int32)]) (rest := []) ⟨hx, hb, hml, hown, hts⟩ hI hH (c_X8_liveDaysOf l E x1 r7 (7 : Int32) M2 u _ hg8) (cwV 3 hts gX8_weighPacks_X8_liveDaysOf rfl rfl rfl (by decide +kernel) ⟨Nat.le_of_ble_eq_true rfl, Nat.le_of_ble_eq_true rfl⟩) mt_T133 rfl rfl hl.1 rfl (Nat.le_of_ble_eq_true rfl) dX8_weighPacks_26 ⟨Nat.zero_le _, Nat.zero_le _⟩) hS (fun H locs hH hS => ?_)
    refine lv_aload_n hx hb dX8_weighPacks_29 rfl (lv_at hl 0 rfl) ?_
    refine mt_getr (C := RX8) (T := TX8) (N := 5) hx hb hts hinX8 hown hI hH mt_T133 rfl 2 (by decide) kw1 rfl rfl dX8_weighPacks_30 ?_
    refine lv_iload_n hx hb dX8_weighPacks_33 rfl (lv_at hl 1 rfl) ?_
    refine lv_aload_n hx hb dX8_weighPacks_34 rfl (lv_at hl 0 rfl) ?_
    refine mt_getr (C := RX8) (T := TX8) (N := 5) hx hb hts hinX8 hown hI hH mt_T133 rfl 1 (by decide) kw2 rfl rfl dX8_weighPacks_35 ?_
    refine mt_getiN (C := RX0) (T := TX0) (N := 12) hx hb hts hinX0 hown hI hH mt_T137 rfl 10 (by decide) (List.mem_of_getElem? (i := 5) rfl) rfl rfl dX8_weighPacks_38 ?_
    refine mt_ciI hf (fun q11 hf => ?_)
    refine mt_iast hx hb hI hH hS mt_T134 q11 dX8_weighPacks_41 (fun H locs hH hS => ?_)
    refine mt_ltI hf (fun M10 eM10 hf => ?_)
    rw [← eM10] at hH
    refine lv_aload_n hx hb dX8_weighPacks_42 rfl (lv_at hl 0 rfl) ?_
    refine lv_iload_n hx hb dX8_weighPacks_43 rfl (lv_at hl 1 rfl) ?_
    refine lv_aload_n hx hb dX8_weighPacks_44 rfl (lv_at hl 0 rfl) ?_
    refine lv_iload_n hx hb dX8_weighPacks_45 rfl (lv_at hl 1 rfl) ?_
    refine lv_iconst (v := 1) hx hb dX8_weighPacks_46 (by decide) ?_
    refine mt_b1I hf (fun r13 hg12 hf => ?_)
    refine mt_goi (mt_runV (i := 133) (As := [.int x1, .int (1 : Int32)]) (rest := [.int x1, .ref (E.2.1 133)]) ⟨hx, hb, hml, hown, hts⟩ hI hH (c_X8_stockWith l E x1 (1 : Int32) M10 u _ hg12) (cwV 2 hts gX8_weighPacks_X8_stockWith rfl rfl rfl (by decide +kernel) ⟨Nat.le_of_ble_eq_true rfl, Nat.le_of_ble_eq_true rfl⟩) mt_T133 rfl rfl hl.1 rfl (Nat.le_of_ble_eq_true rfl) dX8_weighPacks_47 ⟨Nat.zero_le _, Nat.zero_le _⟩) hS (fun H locs hH hS => ?_)
    refine lv_bipush (v := 7) hx hb dX8_weighPacks_50 (by decide) ?_
    refine mt_b1I hf (fun M15 hg14 hf => ?_)
    refine mt_gov (mt_runV (i := 133) (As := [.int x1, .int r13, .int (7 : Int32)]) (rest := []) ⟨hx, hb, hml, hown, hts⟩ hI hH (c_X8_liveDaysOf l E x1 r13 (7 : Int32) M10 u _ hg14) (cwV 3 hts gX8_weighPacks_X8_liveDaysOf rfl rfl rfl (by decide +kernel) ⟨Nat.le_of_ble_eq_true rfl, Nat.le_of_ble_eq_true rfl⟩) mt_T133 rfl rfl hl.1 rfl (Nat.le_of_ble_eq_true rfl) dX8_weighPacks_52 ⟨Nat.zero_le _, Nat.zero_le _⟩) hS (fun H locs hH hS => ?_)
    refine lv_aload_n hx hb dX8_weighPacks_55 rfl (lv_at hl 0 rfl) ?_
    refine mt_getr (C := RX8) (T := TX8) (N := 5) hx hb hts hinX8 hown hI hH mt_T133 rfl 3 (by decide) kw3 rfl rfl dX8_weighPacks_56 ?_
    refine lv_iload_n hx hb dX8_weighPacks_59 rfl (lv_at hl 1 rfl) ?_
    refine lv_aload_n hx hb dX8_weighPacks_60 rfl (lv_at hl 0 rfl) ?_
    refine mt_getr (C := RX8) (T := TX8) (N := 5) hx hb hts hinX8 hown hI hH mt_T133 rfl 1 (by decide) kw2 rfl rfl dX8_weighPacks_61 ?_
    refine mt_getiN (C := RX0) (T := TX0) (N := 12) hx hb hts hinX0 hown hI hH mt_T137 rfl 10 (by decide) (List.mem_of_getElem? (i := 5) rfl) rfl rfl dX8_weighPacks_64 ?_
    refine mt_ciI hf (fun q17 hf => ?_)
    refine mt_iast hx hb hI hH hS mt_T135 q17 dX8_weighPacks_67 (fun H locs hH hS => ?_)
    refine mt_ltI hf (fun M16 eM16 hf => ?_)
    rw [← eM16] at hH
    refine mt_ltI hf (fun x18 ex18 hf => ?_)
    refine lv_iinc (v := x18) (lv' := [(1, .int x18), (0, .ref (E.2.1 133))]) hx hb dX8_weighPacks_68 hl (k := 1) rfl (by rw [ex18]; rfl) (by decide) rfl (fun ls hl => ?_)
    refine lv_goto (tgt := 2) hx hb dX8_weighPacks_71 (by decide) ?_
    exact ih4 x18 M16 hf _ _ _ hH hS (lv_sub hl [1, 0] rfl)
set_option maxHeartbeats 4000000 in
set_option maxRecDepth 100000 in
theorem c_X8_priceOfSet (l : Launch) (E : mt_E) (a1 : Int32) (M : mt_M) (u : mt_U) (r : Int32) (hf : f_X8_priceOfSet a1 M = some (r)) : Met l yX8_priceOfSet wsX8_priceOfSet ({ frames := 2, cells := 0, slots := 0, locals := 42 } : Room) (mt_P E [.ref (E.2.1 133), .int a1] M u) (mt_Qi E r M u) 0 0 (mt_A E) := by
  refine Met.ofW (cc := cX8_priceOfSet) (maxL := 4) (ret := (some .int)) (by decide) rfl ?_
  intro p e s mid args below meth c0 s₁ B hml hv
  obtain ⟨rfl, hI, hH⟩ := hv
  have hx := B.exec
  have hb := B.bytes
  have hr := B.returns
  have hts := atoms_spec (ws := wsX8_priceOfSet) B.pre
  have hown : s.vm.findClass RX8 = some mid.cls := findClass_of_methodNamed B.named
  have hlocks := B.notSynchronized
  have hS : va_S (mt_A E) s.heap s.heap [] := va_S.rf
  have hl := lv_entry ([.ref (E.2.1 133), .int a1]) (n := 4) (Nat.le_of_ble_eq_true rfl)
  rw [lg_entry_eq]
  generalize (lg_sl ([.ref (E.2.1 133), .int a1]) ++ List.replicate (4 - (lg_sl ([.ref (E.2.1 133), .int a1])).length) Slot.unset).toArray = ls at hl ⊢
  have hl : lv_has ls 4 [(0, .ref (E.2.1 133)), (1, .int a1)] := hl
  unfold f_X8_priceOfSet at hf
  have kw0 := hts (.fieldLink RX8 21 "MilkTwice$Mind" "house" "LMilkTwice$House;") (List.mem_of_getElem? (i := 1) rfl)
  have hinX8 : ∀ w ∈ u_ws RX8 TX8 5, w ∈ wsX8_priceOfSet := fun w h => List.mem_cons_of_mem _ (List.mem_append_left _ (List.mem_append_left _ (List.mem_append_right _ h)))
  have hinX4 : ∀ w ∈ u_ws RX4 TX4 6, w ∈ wsX8_priceOfSet := fun w h => List.mem_cons_of_mem _ (List.mem_append_left _ (List.mem_append_right _ h))
  have hinX0 : ∀ w ∈ u_ws RX0 TX0 12, w ∈ wsX8_priceOfSet := fun w h => List.mem_cons_of_mem _ (List.mem_append_right _ h)
  refine lv_iconst (v := 0) hx hb dX8_priceOfSet_0 (by decide) ?_
  refine lv_istore_n (lv' := [(2, .int (0 : Int32)), (0, .ref (E.2.1 133)), (1, .int a1)]) hx hb dX8_priceOfSet_1 rfl hl (by decide) rfl (fun ls hl => ?_)
  refine lv_iconst (v := 0) hx hb dX8_priceOfSet_2 (by decide) ?_
  refine lv_istore_n (lv' := [(3, .int (0 : Int32)), (2, .int (0 : Int32)), (0, .ref (E.2.1 133)), (1, .int a1)]) hx hb dX8_priceOfSet_3 rfl hl (by decide) rfl (fun ls hl => ?_)
  refine mt_lpI2 hf (fun (x1 : Int32) (x2 : Int32) => ∀ (H : Heap) (locs : List Loc) (ls : Array Slot), mt_H E M u H → va_S (mt_A E) s.heap H locs → lv_has ls 4 [(0, .ref (E.2.1 133)), (1, .int a1), (2, .int x1), (3, .int x2)] → W p l e (headSpec wsX8_priceOfSet ({ frames := 2, cells := 0, slots := 0, locals := 42 } : Room)).room s mid (([.ref (E.2.1 133), .int a1] : List Value).toArray) below meth c0 H locs 0 0 (MQ below (mt_Qi E r M u) (([.ref (E.2.1 133), .int a1] : List Value).toArray) s 0 0 (mt_A E)) (F0 mid 4 ls [])) ?_ _ _ _ hH hS (lv_sub hl [2, 3, 1, 0] rfl)
  intro k3 ih4 x1 x2 hf H locs ls hH hS hl
  refine lv_iload_n hx hb dX8_priceOfSet_4 rfl (lv_at hl 3 rfl) ?_
  refine lv_aload_n hx hb dX8_priceOfSet_5 rfl (lv_at hl 0 rfl) ?_
  refine mt_getr (C := RX8) (T := TX8) (N := 5) hx hb hts hinX8 hown hI hH mt_T133 rfl 0 (by decide) kw0 rfl rfl dX8_priceOfSet_6 ?_
  refine mt_getrN (C := RX4) (T := TX4) (N := 6) hx hb hts hinX4 hown hI hH mt_T10 rfl 0 (by decide) (List.mem_of_getElem? (i := 9) rfl) rfl rfl dX8_priceOfSet_9 ?_
  refine mt_getiN (C := RX0) (T := TX0) (N := 12) hx hb hts hinX0 hown hI hH mt_T13 rfl 8 (by decide) (List.mem_of_getElem? (i := 1) rfl) rfl rfl dX8_priceOfSet_12 ?_
  refine lv_icmp_ge (tgt := 51) hx hb dX8_priceOfSet_15 (by decide) (fun c5 => ?_) (fun c5 => ?_)
  · have hf := mt_ifT c5 hf
    refine lv_iload_n hx hb dX8_priceOfSet_51 rfl (lv_at hl 2 rfl) ?_
    have i1 := mt_so1 hf
    subst i1
    exact mt_iret hx hb hr hI hH hS hlocks dX8_priceOfSet_52
  · have hf := mt_ifF c5 hf
    refine lv_iload_n hx hb dX8_priceOfSet_18 rfl (lv_at hl 2 rfl) ?_
    refine lv_iload_n hx hb dX8_priceOfSet_19 rfl (lv_at hl 1 rfl) ?_
    refine lv_iload_n hx hb dX8_priceOfSet_20 rfl (lv_at hl 3 rfl) ?_
    refine lv_ishr hx hb dX8_priceOfSet_21 ?_
    refine lv_iconst (v := 1) hx hb dX8_priceOfSet_22 (by decide) ?_
    refine lv_iand hx hb dX8_priceOfSet_23 ?_
    refine lv_iconst (v := 1) hx hb dX8_priceOfSet_24 (by decide) ?_
    refine mt_jn1 hf (fun (v6 : Int32) => ∀ (H : Heap) (locs : List Loc) (ls : Array Slot), mt_H E M u H → va_S (mt_A E) s.heap H locs → lv_has ls 4 [(0, .ref (E.2.1 133)), (1, .int a1), (3, .int x2)] → W p l e (headSpec wsX8_priceOfSet ({ frames := 2, cells := 0, slots := 0, locals := 42 } : Room)).room s mid (([.ref (E.2.1 133), .int a1] : List Value).toArray) below meth c0 H locs 0 0 (MQ below (mt_Qi E r M u) (([.ref (E.2.1 133), .int a1] : List Value).toArray) s 0 0 (mt_A E)) (F0 mid 43 ls [.int v6, .int x1])) ?_ ?_
    · intro v6 hf H locs ls hH hS hl
      refine lv_iadd hx hb dX8_priceOfSet_43 ?_
      refine mt_lti hf (fun x9 ex9 hf => ?_)
      refine lv_istore_n (lv' := [(2, .int x9), (0, .ref (E.2.1 133)), (1, .int a1), (3, .int x2)]) hx hb dX8_priceOfSet_44 rfl hl (by decide) rfl (fun ls hl => ?_)
      refine mt_ltI hf (fun x10 ex10 hf => ?_)
      refine lv_iinc (v := x10) (lv' := [(3, .int x10), (2, .int x9), (0, .ref (E.2.1 133)), (1, .int a1)]) hx hb dX8_priceOfSet_45 hl (k := 3) rfl (by rw [ex10]; rfl) (by decide) rfl (fun ls hl => ?_)
      refine lv_goto (tgt := 4) hx hb dX8_priceOfSet_48 (by decide) ?_
      exact ih4 x9 x10 hf _ _ _ hH hS (lv_sub hl [2, 3, 1, 0] rfl)
    · intro j7 hj8 hf
      refine lv_icmp_ne (tgt := 42) hx hb dX8_priceOfSet_25 (by decide) (fun c11 => ?_) (fun c11 => ?_)
      · have hf := mt_ifF c11 hf
        refine lv_iconst (v := 0) hx hb dX8_priceOfSet_42 (by decide) ?_
        exact hj8 (0 : Int32) hf _ _ _ hH hS (lv_sub hl [0, 1, 3] rfl)
      · have hf := mt_ifT c11 hf
        refine lv_aload_n hx hb dX8_priceOfSet_28 rfl (lv_at hl 0 rfl) ?_
        refine mt_getr (C := RX8) (T := TX8) (N := 5) hx hb hts hinX8 hown hI hH mt_T133 rfl 0 (by decide) kw0 rfl rfl dX8_priceOfSet_29 ?_
        refine mt_getrN (C := RX4) (T := TX4) (N := 6) hx hb hts hinX4 hown hI hH mt_T10 rfl 0 (by decide) (List.mem_of_getElem? (i := 9) rfl) rfl rfl dX8_priceOfSet_32 ?_
        refine lv_iload_n hx hb dX8_priceOfSet_35 rfl (lv_at hl 3 rfl) ?_
        refine mt_b1I hf (fun r13 hg12 hf => ?_)
        refine mt_goi (mt_runV (i := 13) (As := [.int x2]) (rest := [.int x1]) ⟨hx, hb, hml, hown, hts⟩ hI hH (c_X0_priceOf l E 13 (by decide) x2 M u _ hg12) (cwV 1 hts gX8_priceOfSet_X0_priceOf rfl rfl rfl (by decide +kernel) ⟨Nat.le_of_ble_eq_true rfl, Nat.le_of_ble_eq_true rfl⟩) mt_T13 rfl rfl hl.1 rfl (Nat.le_of_ble_eq_true rfl) dX8_priceOfSet_36 ⟨Nat.zero_le _, Nat.zero_le _⟩) hS (fun H locs hH hS => ?_)
        refine lv_goto (tgt := 43) hx hb dX8_priceOfSet_39 (by decide) ?_
        exact hj8 r13 hf _ _ _ hH hS (lv_sub hl [0, 1, 3] rfl)
set_option maxHeartbeats 4000000 in
set_option maxRecDepth 100000 in
theorem c_X8_lackedBySet (l : Launch) (E : mt_E) (a1 : Int32) (M : mt_M) (u : mt_U) (r : Int32) (hf : f_X8_lackedBySet a1 M = some (r)) : Met l yX8_lackedBySet wsX8_lackedBySet ({ frames := 0, cells := 0, slots := 0, locals := 0 } : Room) (mt_P E [.ref (E.2.1 133), .int a1] M u) (mt_Qi E r M u) 0 0 (mt_A E) := by
  refine Met.ofW (cc := cX8_lackedBySet) (maxL := 4) (ret := (some .int)) (by decide) rfl ?_
  intro p e s mid args below meth c0 s₁ B hml hv
  obtain ⟨rfl, hI, hH⟩ := hv
  have hx := B.exec
  have hb := B.bytes
  have hr := B.returns
  have hts := atoms_spec (ws := wsX8_lackedBySet) B.pre
  have hown : s.vm.findClass RX8 = some mid.cls := findClass_of_methodNamed B.named
  have hlocks := B.notSynchronized
  have hS : va_S (mt_A E) s.heap s.heap [] := va_S.rf
  have hl := lv_entry ([.ref (E.2.1 133), .int a1]) (n := 4) (Nat.le_of_ble_eq_true rfl)
  rw [lg_entry_eq]
  generalize (lg_sl ([.ref (E.2.1 133), .int a1]) ++ List.replicate (4 - (lg_sl ([.ref (E.2.1 133), .int a1])).length) Slot.unset).toArray = ls at hl ⊢
  have hl : lv_has ls 4 [(0, .ref (E.2.1 133)), (1, .int a1)] := hl
  unfold f_X8_lackedBySet at hf
  have kw0 := hts (.fieldLink RX8 21 "MilkTwice$Mind" "house" "LMilkTwice$House;") (List.mem_of_getElem? (i := 1) rfl)
  have kw1 := hts (.fieldLink RX8 9 "MilkTwice$Mind" "lackedWithout" "[I") (List.mem_of_getElem? (i := 3) rfl)
  have kw2 := hts (.fieldLink RX8 15 "MilkTwice$Mind" "lackedWith" "[I") (List.mem_of_getElem? (i := 2) rfl)
  have hinX8 : ∀ w ∈ u_ws RX8 TX8 5, w ∈ wsX8_lackedBySet := fun w h => List.mem_cons_of_mem _ (List.mem_append_left _ (List.mem_append_left _ (List.mem_append_right _ h)))
  have hinX4 : ∀ w ∈ u_ws RX4 TX4 6, w ∈ wsX8_lackedBySet := fun w h => List.mem_cons_of_mem _ (List.mem_append_left _ (List.mem_append_right _ h))
  have hinX0 : ∀ w ∈ u_ws RX0 TX0 12, w ∈ wsX8_lackedBySet := fun w h => List.mem_cons_of_mem _ (List.mem_append_right _ h)
  refine lv_iconst (v := 0) hx hb dX8_lackedBySet_0 (by decide) ?_
  refine lv_istore_n (lv' := [(2, .int (0 : Int32)), (0, .ref (E.2.1 133)), (1, .int a1)]) hx hb dX8_lackedBySet_1 rfl hl (by decide) rfl (fun ls hl => ?_)
  refine lv_iconst (v := 0) hx hb dX8_lackedBySet_2 (by decide) ?_
  refine lv_istore_n (lv' := [(3, .int (0 : Int32)), (2, .int (0 : Int32)), (0, .ref (E.2.1 133)), (1, .int a1)]) hx hb dX8_lackedBySet_3 rfl hl (by decide) rfl (fun ls hl => ?_)
  refine mt_lpI2 hf (fun (x1 : Int32) (x2 : Int32) => ∀ (H : Heap) (locs : List Loc) (ls : Array Slot), mt_H E M u H → va_S (mt_A E) s.heap H locs → lv_has ls 4 [(0, .ref (E.2.1 133)), (1, .int a1), (2, .int x1), (3, .int x2)] → W p l e (headSpec wsX8_lackedBySet ({ frames := 0, cells := 0, slots := 0, locals := 0 } : Room)).room s mid (([.ref (E.2.1 133), .int a1] : List Value).toArray) below meth c0 H locs 0 0 (MQ below (mt_Qi E r M u) (([.ref (E.2.1 133), .int a1] : List Value).toArray) s 0 0 (mt_A E)) (F0 mid 4 ls [])) ?_ _ _ _ hH hS (lv_sub hl [2, 3, 1, 0] rfl)
  intro k3 ih4 x1 x2 hf H locs ls hH hS hl
  refine lv_iload_n hx hb dX8_lackedBySet_4 rfl (lv_at hl 3 rfl) ?_
  refine lv_aload_n hx hb dX8_lackedBySet_5 rfl (lv_at hl 0 rfl) ?_
  refine mt_getr (C := RX8) (T := TX8) (N := 5) hx hb hts hinX8 hown hI hH mt_T133 rfl 0 (by decide) kw0 rfl rfl dX8_lackedBySet_6 ?_
  refine mt_getrN (C := RX4) (T := TX4) (N := 6) hx hb hts hinX4 hown hI hH mt_T10 rfl 0 (by decide) (List.mem_of_getElem? (i := 9) rfl) rfl rfl dX8_lackedBySet_9 ?_
  refine mt_getiN (C := RX0) (T := TX0) (N := 12) hx hb hts hinX0 hown hI hH mt_T13 rfl 8 (by decide) (List.mem_of_getElem? (i := 1) rfl) rfl rfl dX8_lackedBySet_12 ?_
  refine lv_icmp_ge (tgt := 51) hx hb dX8_lackedBySet_15 (by decide) (fun c5 => ?_) (fun c5 => ?_)
  · have hf := mt_ifT c5 hf
    refine lv_iload_n hx hb dX8_lackedBySet_51 rfl (lv_at hl 2 rfl) ?_
    have i1 := mt_so1 hf
    subst i1
    exact mt_iret hx hb hr hI hH hS hlocks dX8_lackedBySet_52
  · have hf := mt_ifF c5 hf
    refine lv_iload_n hx hb dX8_lackedBySet_18 rfl (lv_at hl 2 rfl) ?_
    refine lv_iload_n hx hb dX8_lackedBySet_19 rfl (lv_at hl 1 rfl) ?_
    refine lv_iload_n hx hb dX8_lackedBySet_20 rfl (lv_at hl 3 rfl) ?_
    refine lv_ishr hx hb dX8_lackedBySet_21 ?_
    refine lv_iconst (v := 1) hx hb dX8_lackedBySet_22 (by decide) ?_
    refine lv_iand hx hb dX8_lackedBySet_23 ?_
    refine lv_iconst (v := 1) hx hb dX8_lackedBySet_24 (by decide) ?_
    refine mt_jn1 hf (fun (v6 : Int32) => ∀ (H : Heap) (locs : List Loc) (ls : Array Slot), mt_H E M u H → va_S (mt_A E) s.heap H locs → lv_has ls 4 [(0, .ref (E.2.1 133)), (1, .int a1), (3, .int x2)] → W p l e (headSpec wsX8_lackedBySet ({ frames := 0, cells := 0, slots := 0, locals := 0 } : Room)).room s mid (([.ref (E.2.1 133), .int a1] : List Value).toArray) below meth c0 H locs 0 0 (MQ below (mt_Qi E r M u) (([.ref (E.2.1 133), .int a1] : List Value).toArray) s 0 0 (mt_A E)) (F0 mid 43 ls [.int v6, .int x1])) ?_ ?_
    · intro v6 hf H locs ls hH hS hl
      refine lv_iadd hx hb dX8_lackedBySet_43 ?_
      refine mt_lti hf (fun x9 ex9 hf => ?_)
      refine lv_istore_n (lv' := [(2, .int x9), (0, .ref (E.2.1 133)), (1, .int a1), (3, .int x2)]) hx hb dX8_lackedBySet_44 rfl hl (by decide) rfl (fun ls hl => ?_)
      refine mt_ltI hf (fun x10 ex10 hf => ?_)
      refine lv_iinc (v := x10) (lv' := [(3, .int x10), (2, .int x9), (0, .ref (E.2.1 133)), (1, .int a1)]) hx hb dX8_lackedBySet_45 hl (k := 3) rfl (by rw [ex10]; rfl) (by decide) rfl (fun ls hl => ?_)
      refine lv_goto (tgt := 4) hx hb dX8_lackedBySet_48 (by decide) ?_
      exact ih4 x9 x10 hf _ _ _ hH hS (lv_sub hl [2, 3, 1, 0] rfl)
    · intro j7 hj8 hf
      refine lv_icmp_ne (tgt := 37) hx hb dX8_lackedBySet_25 (by decide) (fun c11 => ?_) (fun c11 => ?_)
      · have hf := mt_ifF c11 hf
        refine lv_aload_n hx hb dX8_lackedBySet_37 rfl (lv_at hl 0 rfl) ?_
        refine mt_getr (C := RX8) (T := TX8) (N := 5) hx hb hts hinX8 hown hI hH mt_T133 rfl 2 (by decide) kw1 rfl rfl dX8_lackedBySet_38 ?_
        refine lv_iload_n hx hb dX8_lackedBySet_41 rfl (lv_at hl 3 rfl) ?_
        refine mt_ciI hf (fun q12 hf => ?_)
        refine mt_iald hx hb hI hH mt_T134 q12 dX8_lackedBySet_42 ?_
        exact hj8 (M 134 x2.toNatClampNeg) hf _ _ _ hH hS (lv_sub hl [0, 1, 3] rfl)
      · have hf := mt_ifT c11 hf
        refine lv_aload_n hx hb dX8_lackedBySet_28 rfl (lv_at hl 0 rfl) ?_
        refine mt_getr (C := RX8) (T := TX8) (N := 5) hx hb hts hinX8 hown hI hH mt_T133 rfl 3 (by decide) kw2 rfl rfl dX8_lackedBySet_29 ?_
        refine lv_iload_n hx hb dX8_lackedBySet_32 rfl (lv_at hl 3 rfl) ?_
        refine mt_ciI hf (fun q13 hf => ?_)
        refine mt_iald hx hb hI hH mt_T135 q13 dX8_lackedBySet_33 ?_
        refine lv_goto (tgt := 43) hx hb dX8_lackedBySet_34 (by decide) ?_
        exact hj8 (M 135 x2.toNatClampNeg) hf _ _ _ hH hS (lv_sub hl [0, 1, 3] rfl)
set_option maxHeartbeats 4000000 in
set_option maxRecDepth 100000 in
theorem c_X8_bestSet (l : Launch) (E : mt_E) (a1 : Int32) (M : mt_M) (u : mt_U) (r : Int32) (M' : mt_M) (hf : f_X8_bestSet a1 M = some (r, M')) : Met l yX8_bestSet wsX8_bestSet ({ frames := 5, cells := 0, slots := 0, locals := 112 } : Room) (mt_P E [.ref (E.2.1 133), .int a1] M u) (mt_Qi E r M' u) 0 0 (mt_A E) := by
  refine Met.ofW (cc := cX8_bestSet) (maxL := 4) (ret := (some .int)) (by decide) rfl ?_
  intro p e s mid args below meth c0 s₁ B hml hv
  obtain ⟨rfl, hI, hH⟩ := hv
  have hx := B.exec
  have hb := B.bytes
  have hr := B.returns
  have hts := atoms_spec (ws := wsX8_bestSet) B.pre
  have hown : s.vm.findClass RX8 = some mid.cls := findClass_of_methodNamed B.named
  have hlocks := B.notSynchronized
  have hS : va_S (mt_A E) s.heap s.heap [] := va_S.rf
  have hl := lv_entry ([.ref (E.2.1 133), .int a1]) (n := 4) (Nat.le_of_ble_eq_true rfl)
  rw [lg_entry_eq]
  generalize (lg_sl ([.ref (E.2.1 133), .int a1]) ++ List.replicate (4 - (lg_sl ([.ref (E.2.1 133), .int a1])).length) Slot.unset).toArray = ls at hl ⊢
  have hl : lv_has ls 4 [(0, .ref (E.2.1 133)), (1, .int a1)] := hl
  unfold f_X8_bestSet at hf
  have kw0 := hts (.fieldLink RX8 21 "MilkTwice$Mind" "house" "LMilkTwice$House;") (List.mem_of_getElem? (i := 1) rfl)
  have hinX8 : ∀ w ∈ u_ws RX8 TX8 5, w ∈ wsX8_bestSet := fun w h => List.mem_cons_of_mem _ (List.mem_append_left _ (List.mem_append_left _ (List.mem_append_right _ h)))
  have hinX4 : ∀ w ∈ u_ws RX4 TX4 6, w ∈ wsX8_bestSet := fun w h => List.mem_cons_of_mem _ (List.mem_append_left _ (List.mem_append_right _ h))
  refine lv_aload_n hx hb dX8_bestSet_0 rfl (lv_at hl 0 rfl) ?_
  refine mt_b1I hf (fun M2 hg1 hf => ?_)
  refine mt_gov (mt_runV (i := 133) (As := []) (rest := []) ⟨hx, hb, hml, hown, hts⟩ hI hH (c_X8_weighPacks l E M u _ hg1) (cwV 0 hts gX8_bestSet_X8_weighPacks rfl rfl rfl (by decide +kernel) ⟨Nat.le_of_ble_eq_true rfl, Nat.le_of_ble_eq_true rfl⟩) mt_T133 rfl rfl hl.1 rfl (Nat.le_of_ble_eq_true rfl) dX8_bestSet_1 ⟨Nat.zero_le _, Nat.zero_le _⟩) hS (fun H locs hH hS => ?_)
  refine lv_iconst (v := 0) hx hb dX8_bestSet_4 (by decide) ?_
  refine lv_istore_n (lv' := [(2, .int (0 : Int32)), (0, .ref (E.2.1 133)), (1, .int a1)]) hx hb dX8_bestSet_5 rfl hl (by decide) rfl (fun ls hl => ?_)
  refine lv_iconst (v := 1) hx hb dX8_bestSet_6 (by decide) ?_
  refine lv_istore_n (lv' := [(3, .int (1 : Int32)), (2, .int (0 : Int32)), (0, .ref (E.2.1 133)), (1, .int a1)]) hx hb dX8_bestSet_7 rfl hl (by decide) rfl (fun ls hl => ?_)
  refine mt_lpI2 hf (fun (x3 : Int32) (x4 : Int32) => ∀ (H : Heap) (locs : List Loc) (ls : Array Slot), mt_H E M2 u H → va_S (mt_A E) s.heap H locs → lv_has ls 4 [(0, .ref (E.2.1 133)), (1, .int a1), (2, .int x3), (3, .int x4)] → W p l e (headSpec wsX8_bestSet ({ frames := 5, cells := 0, slots := 0, locals := 112 } : Room)).room s mid (([.ref (E.2.1 133), .int a1] : List Value).toArray) below meth c0 H locs 0 0 (MQ below (mt_Qi E r M' u) (([.ref (E.2.1 133), .int a1] : List Value).toArray) s 0 0 (mt_A E)) (F0 mid 8 ls [])) ?_ _ _ _ hH hS (lv_sub hl [2, 3, 1, 0] rfl)
  intro k5 ih6 x3 x4 hf H locs ls hH hS hl
  refine lv_iload_n hx hb dX8_bestSet_8 rfl (lv_at hl 3 rfl) ?_
  refine lv_aload_n hx hb dX8_bestSet_9 rfl (lv_at hl 0 rfl) ?_
  refine mt_getr (C := RX8) (T := TX8) (N := 5) hx hb hts hinX8 hown hI hH mt_T133 rfl 0 (by decide) kw0 rfl rfl dX8_bestSet_10 ?_
  refine mt_getrN (C := RX4) (T := TX4) (N := 6) hx hb hts hinX4 hown hI hH mt_T10 rfl 0 (by decide) (List.mem_of_getElem? (i := 9) rfl) rfl rfl dX8_bestSet_13 ?_
  refine mt_b1I hf (fun r8 hg7 hf => ?_)
  refine mt_goi (mt_runV (i := 13) (As := []) (rest := [.int x4]) ⟨hx, hb, hml, hown, hts⟩ hI hH (c_X0_bitsOfAll l E 13 (by decide) M2 u _ hg7) (cwV 0 hts gX8_bestSet_X0_bitsOfAll rfl rfl rfl (by decide +kernel) ⟨Nat.le_of_ble_eq_true rfl, Nat.le_of_ble_eq_true rfl⟩) mt_T13 rfl rfl hl.1 rfl (Nat.le_of_ble_eq_true rfl) dX8_bestSet_16 ⟨Nat.zero_le _, Nat.zero_le _⟩) hS (fun H locs hH hS => ?_)
  refine lv_icmp_gt (tgt := 52) hx hb dX8_bestSet_19 (by decide) (fun c9 => ?_) (fun c9 => ?_)
  · have hf := mt_ifT c9 hf
    refine lv_iload_n hx hb dX8_bestSet_52 rfl (lv_at hl 2 rfl) ?_
    obtain ⟨i1, i2⟩ := mt_so2 hf
    subst i1
    subst i2
    exact mt_iret hx hb hr hI hH hS hlocks dX8_bestSet_53
  · have hf := mt_ifF c9 hf
    refine lv_aload_n hx hb dX8_bestSet_22 rfl (lv_at hl 0 rfl) ?_
    refine lv_iload_n hx hb dX8_bestSet_23 rfl (lv_at hl 3 rfl) ?_
    refine mt_b1I hf (fun r11 hg10 hf => ?_)
    refine mt_goi (mt_runV (i := 133) (As := [.int x4]) (rest := []) ⟨hx, hb, hml, hown, hts⟩ hI hH (c_X8_priceOfSet l E x4 M2 u _ hg10) (cwV 1 hts gX8_bestSet_X8_priceOfSet rfl rfl rfl (by decide +kernel) ⟨Nat.le_of_ble_eq_true rfl, Nat.le_of_ble_eq_true rfl⟩) mt_T133 rfl rfl hl.1 rfl (Nat.le_of_ble_eq_true rfl) dX8_bestSet_24 ⟨Nat.zero_le _, Nat.zero_le _⟩) hS (fun H locs hH hS => ?_)
    refine lv_iload_n hx hb dX8_bestSet_27 rfl (lv_at hl 1 rfl) ?_
    refine mt_jn1 hf (fun (x12 : Int32) => ∀ (H : Heap) (locs : List Loc) (ls : Array Slot), mt_H E M2 u H → va_S (mt_A E) s.heap H locs → lv_has ls 4 [(0, .ref (E.2.1 133)), (1, .int a1), (2, .int x12), (3, .int x4)] → W p l e (headSpec wsX8_bestSet ({ frames := 5, cells := 0, slots := 0, locals := 112 } : Room)).room s mid (([.ref (E.2.1 133), .int a1] : List Value).toArray) below meth c0 H locs 0 0 (MQ below (mt_Qi E r M' u) (([.ref (E.2.1 133), .int a1] : List Value).toArray) s 0 0 (mt_A E)) (F0 mid 46 ls [])) ?_ ?_
    · intro x12 hf H locs ls hH hS hl
      refine mt_ltI hf (fun x15 ex15 hf => ?_)
      refine lv_iinc (v := x15) (lv' := [(3, .int x15), (0, .ref (E.2.1 133)), (1, .int a1), (2, .int x12)]) hx hb dX8_bestSet_46 hl (k := 3) rfl (by rw [ex15]; rfl) (by decide) rfl (fun ls hl => ?_)
      refine lv_goto (tgt := 8) hx hb dX8_bestSet_49 (by decide) ?_
      exact ih6 x12 x15 hf _ _ _ hH hS (lv_sub hl [1, 2, 3, 0] rfl)
    · intro j13 hj14 hf
      refine lv_icmp_gt (tgt := 46) hx hb dX8_bestSet_28 (by decide) (fun c16 => ?_) (fun c16 => ?_)
      · have hf := mt_ifT c16 hf
        exact hj14 x3 hf _ _ _ hH hS (lv_sub hl [0, 1, 2, 3] rfl)
      · have hf := mt_ifF c16 hf
        refine lv_aload_n hx hb dX8_bestSet_31 rfl (lv_at hl 0 rfl) ?_
        refine lv_iload_n hx hb dX8_bestSet_32 rfl (lv_at hl 3 rfl) ?_
        refine mt_b1I hf (fun r18 hg17 hf => ?_)
        refine mt_goi (mt_runV (i := 133) (As := [.int x4]) (rest := []) ⟨hx, hb, hml, hown, hts⟩ hI hH (c_X8_lackedBySet l E x4 M2 u _ hg17) (cwV 1 hts gX8_bestSet_X8_lackedBySet rfl rfl rfl (by decide +kernel) ⟨Nat.le_of_ble_eq_true rfl, Nat.le_of_ble_eq_true rfl⟩) mt_T133 rfl rfl hl.1 rfl (Nat.le_of_ble_eq_true rfl) dX8_bestSet_33 ⟨Nat.zero_le _, Nat.zero_le _⟩) hS (fun H locs hH hS => ?_)
        refine lv_aload_n hx hb dX8_bestSet_36 rfl (lv_at hl 0 rfl) ?_
        refine lv_iload_n hx hb dX8_bestSet_37 rfl (lv_at hl 2 rfl) ?_
        refine mt_b1I hf (fun r20 hg19 hf => ?_)
        refine mt_goi (mt_runV (i := 133) (As := [.int x3]) (rest := [.int r18]) ⟨hx, hb, hml, hown, hts⟩ hI hH (c_X8_lackedBySet l E x3 M2 u _ hg19) (cwV 1 hts gX8_bestSet_X8_lackedBySet rfl rfl rfl (by decide +kernel) ⟨Nat.le_of_ble_eq_true rfl, Nat.le_of_ble_eq_true rfl⟩) mt_T133 rfl rfl hl.1 rfl (Nat.le_of_ble_eq_true rfl) dX8_bestSet_38 ⟨Nat.zero_le _, Nat.zero_le _⟩) hS (fun H locs hH hS => ?_)
        refine lv_icmp_ge (tgt := 46) hx hb dX8_bestSet_41 (by decide) (fun c21 => ?_) (fun c21 => ?_)
        · have hf := mt_ifT c21 hf
          exact hj14 x3 hf _ _ _ hH hS (lv_sub hl [0, 1, 2, 3] rfl)
        · have hf := mt_ifF c21 hf
          refine lv_iload_n hx hb dX8_bestSet_44 rfl (lv_at hl 3 rfl) ?_
          refine lv_istore_n (lv' := [(2, .int x4), (0, .ref (E.2.1 133)), (1, .int a1), (3, .int x4)]) hx hb dX8_bestSet_45 rfl hl (by decide) rfl (fun ls hl => ?_)
          exact hj14 x4 hf _ _ _ hH hS (lv_sub hl [1, 2, 0, 3] rfl)
set_option maxHeartbeats 4000000 in
set_option maxRecDepth 100000 in
theorem c_X8_leastStockFor (l : Launch) (E : mt_E) (a1 : Int32) (a2 : Int32) (M : mt_M) (u : mt_U) (r : Int32) (M' : mt_M) (hf : f_X8_leastStockFor a1 a2 M = some (r, M')) : Met l yX8_leastStockFor wsX8_leastStockFor ({ frames := 4, cells := 0, slots := 0, locals := 91 } : Room) (mt_P E [.ref (E.2.1 133), .int a1, .int a2] M u) (mt_Qi E r M' u) 0 0 (mt_A E) := by
  refine Met.ofW (cc := cX8_leastStockFor) (maxL := 4) (ret := (some .int)) (by decide) rfl ?_
  intro p e s mid args below meth c0 s₁ B hml hv
  obtain ⟨rfl, hI, hH⟩ := hv
  have hx := B.exec
  have hb := B.bytes
  have hr := B.returns
  have hts := atoms_spec (ws := wsX8_leastStockFor) B.pre
  have hown : s.vm.findClass RX8 = some mid.cls := findClass_of_methodNamed B.named
  have hlocks := B.notSynchronized
  have hS : va_S (mt_A E) s.heap s.heap [] := va_S.rf
  have hl := lv_entry ([.ref (E.2.1 133), .int a1, .int a2]) (n := 4) (Nat.le_of_ble_eq_true rfl)
  rw [lg_entry_eq]
  generalize (lg_sl ([.ref (E.2.1 133), .int a1, .int a2]) ++ List.replicate (4 - (lg_sl ([.ref (E.2.1 133), .int a1, .int a2])).length) Slot.unset).toArray = ls at hl ⊢
  have hl : lv_has ls 4 [(0, .ref (E.2.1 133)), (1, .int a1), (2, .int a2)] := hl
  unfold f_X8_leastStockFor at hf
  have kw0 := hts (.fieldLink RX8 30 "MilkTwice$Mind" "shelf" "LMilkTwice$Cupboard;") (List.mem_of_getElem? (i := 1) rfl)
  have hinX8 : ∀ w ∈ u_ws RX8 TX8 5, w ∈ wsX8_leastStockFor := fun w h => List.mem_cons_of_mem _ (List.mem_append_left _ (List.mem_append_left _ (List.mem_append_right _ h)))
  have hinX0 : ∀ w ∈ u_ws RX0 TX0 12, w ∈ wsX8_leastStockFor := fun w h => List.mem_cons_of_mem _ (List.mem_append_left _ (List.mem_append_right _ h))
  refine lv_iconst (v := 0) hx hb dX8_leastStockFor_0 (by decide) ?_
  refine lv_istore_n (lv' := [(3, .int (0 : Int32)), (0, .ref (E.2.1 133)), (1, .int a1), (2, .int a2)]) hx hb dX8_leastStockFor_1 rfl hl (by decide) rfl (fun ls hl => ?_)
  refine mt_lpI2 hf (fun (x1 : Int32) (M2 : mt_M) => ∀ (H : Heap) (locs : List Loc) (ls : Array Slot), mt_H E M2 u H → va_S (mt_A E) s.heap H locs → lv_has ls 4 [(0, .ref (E.2.1 133)), (1, .int a1), (2, .int a2), (3, .int x1)] → W p l e (headSpec wsX8_leastStockFor ({ frames := 4, cells := 0, slots := 0, locals := 91 } : Room)).room s mid (([.ref (E.2.1 133), .int a1, .int a2] : List Value).toArray) below meth c0 H locs 0 0 (MQ below (mt_Qi E r M' u) (([.ref (E.2.1 133), .int a1, .int a2] : List Value).toArray) s 0 0 (mt_A E)) (F0 mid 2 ls [])) ?_ _ _ _ hH hS (lv_sub hl [1, 2, 3, 0] rfl)
  intro k3 ih4 x1 M2 hf H locs ls hH hS hl
  refine lv_iload_n hx hb dX8_leastStockFor_2 rfl (lv_at hl 3 rfl) ?_
  refine lv_bipush (v := 99) hx hb dX8_leastStockFor_3 (by decide) ?_
  refine lv_icmp_gt (tgt := 33) hx hb dX8_leastStockFor_5 (by decide) (fun c5 => ?_) (fun c5 => ?_)
  · have hf := mt_ifT c5 hf
    refine lv_bipush (v := (-9)) hx hb dX8_leastStockFor_33 (by decide) ?_
    obtain ⟨i1, i2⟩ := mt_so2 hf
    subst i1
    subst i2
    exact mt_iret hx hb hr hI hH hS hlocks dX8_leastStockFor_35
  · have hf := mt_ifF c5 hf
    refine lv_aload_n hx hb dX8_leastStockFor_8 rfl (lv_at hl 0 rfl) ?_
    refine lv_iload_n hx hb dX8_leastStockFor_9 rfl (lv_at hl 1 rfl) ?_
    refine lv_iload_n hx hb dX8_leastStockFor_10 rfl (lv_at hl 3 rfl) ?_
    refine lv_iload_n hx hb dX8_leastStockFor_11 rfl (lv_at hl 2 rfl) ?_
    refine mt_b1I hf (fun M7 hg6 hf => ?_)
    refine mt_gov (mt_runV (i := 133) (As := [.int a1, .int x1, .int a2]) (rest := []) ⟨hx, hb, hml, hown, hts⟩ hI hH (c_X8_liveDaysOf l E a1 x1 a2 M2 u _ hg6) (cwV 3 hts gX8_leastStockFor_X8_liveDaysOf rfl rfl rfl (by decide +kernel) ⟨Nat.le_of_ble_eq_true rfl, Nat.le_of_ble_eq_true rfl⟩) mt_T133 rfl rfl hl.1 rfl (Nat.le_of_ble_eq_true rfl) dX8_leastStockFor_12 ⟨Nat.zero_le _, Nat.zero_le _⟩) hS (fun H locs hH hS => ?_)
    refine lv_aload_n hx hb dX8_leastStockFor_15 rfl (lv_at hl 0 rfl) ?_
    refine mt_getr (C := RX8) (T := TX8) (N := 5) hx hb hts hinX8 hown hI hH mt_T133 rfl 1 (by decide) kw0 rfl rfl dX8_leastStockFor_16 ?_
    refine mt_getiN (C := RX0) (T := TX0) (N := 12) hx hb hts hinX0 hown hI hH mt_T137 rfl 10 (by decide) (List.mem_of_getElem? (i := 5) rfl) rfl rfl dX8_leastStockFor_19 ?_
    refine lv_if_ne (tgt := 27) hx hb dX8_leastStockFor_22 (by decide) (fun c8 => ?_) (fun c8 => ?_)
    · have hf := mt_ifF c8 hf
      refine mt_ltI hf (fun x9 ex9 hf => ?_)
      refine lv_iinc (v := x9) (lv' := [(3, .int x9), (0, .ref (E.2.1 133)), (1, .int a1), (2, .int a2)]) hx hb dX8_leastStockFor_27 hl (k := 3) rfl (by rw [ex9]; rfl) (by decide) rfl (fun ls hl => ?_)
      refine lv_goto (tgt := 2) hx hb dX8_leastStockFor_30 (by decide) ?_
      exact ih4 x9 M7 hf _ _ _ hH hS (lv_sub hl [1, 2, 3, 0] rfl)
    · have hf := mt_ifT c8 hf
      refine lv_iload_n hx hb dX8_leastStockFor_25 rfl (lv_at hl 3 rfl) ?_
      obtain ⟨i1, i2⟩ := mt_so2 hf
      subst i1
      subst i2
      exact mt_iret hx hb hr hI hH hS hlocks dX8_leastStockFor_26
set_option maxHeartbeats 4000000 in
set_option maxRecDepth 100000 in
theorem c_X8_mostPacksUnspoilt (l : Launch) (E : mt_E) (a1 : Int32) (a2 : Int32) (M : mt_M) (u : mt_U) (r : Int32) (M' : mt_M) (hf : f_X8_mostPacksUnspoilt a1 a2 M = some (r, M')) : Met l yX8_mostPacksUnspoilt wsX8_mostPacksUnspoilt ({ frames := 4, cells := 0, slots := 0, locals := 91 } : Room) (mt_P E [.ref (E.2.1 133), .int a1, .int a2] M u) (mt_Qi E r M' u) 0 0 (mt_A E) := by
  refine Met.ofW (cc := cX8_mostPacksUnspoilt) (maxL := 5) (ret := (some .int)) (by decide) rfl ?_
  intro p e s mid args below meth c0 s₁ B hml hv
  obtain ⟨rfl, hI, hH⟩ := hv
  have hx := B.exec
  have hb := B.bytes
  have hr := B.returns
  have hts := atoms_spec (ws := wsX8_mostPacksUnspoilt) B.pre
  have hown : s.vm.findClass RX8 = some mid.cls := findClass_of_methodNamed B.named
  have hlocks := B.notSynchronized
  have hS : va_S (mt_A E) s.heap s.heap [] := va_S.rf
  have hl := lv_entry ([.ref (E.2.1 133), .int a1, .int a2]) (n := 5) (Nat.le_of_ble_eq_true rfl)
  rw [lg_entry_eq]
  generalize (lg_sl ([.ref (E.2.1 133), .int a1, .int a2]) ++ List.replicate (5 - (lg_sl ([.ref (E.2.1 133), .int a1, .int a2])).length) Slot.unset).toArray = ls at hl ⊢
  have hl : lv_has ls 5 [(0, .ref (E.2.1 133)), (1, .int a1), (2, .int a2)] := hl
  unfold f_X8_mostPacksUnspoilt at hf
  have kw0 := hts (.fieldLink RX8 30 "MilkTwice$Mind" "shelf" "LMilkTwice$Cupboard;") (List.mem_of_getElem? (i := 1) rfl)
  have hinX8 : ∀ w ∈ u_ws RX8 TX8 5, w ∈ wsX8_mostPacksUnspoilt := fun w h => List.mem_cons_of_mem _ (List.mem_append_left _ (List.mem_append_left _ (List.mem_append_right _ h)))
  have hinX0 : ∀ w ∈ u_ws RX0 TX0 12, w ∈ wsX8_mostPacksUnspoilt := fun w h => List.mem_cons_of_mem _ (List.mem_append_left _ (List.mem_append_right _ h))
  refine lv_bipush (v := (-9)) hx hb dX8_mostPacksUnspoilt_0 (by decide) ?_
  refine lv_istore_n (lv' := [(3, .int (-9 : Int32)), (0, .ref (E.2.1 133)), (1, .int a1), (2, .int a2)]) hx hb dX8_mostPacksUnspoilt_2 rfl hl (by decide) rfl (fun ls hl => ?_)
  refine lv_iconst (v := 0) hx hb dX8_mostPacksUnspoilt_3 (by decide) ?_
  refine lv_istore (lv' := [(4, .int (0 : Int32)), (3, .int (-9 : Int32)), (0, .ref (E.2.1 133)), (1, .int a1), (2, .int a2)]) hx hb dX8_mostPacksUnspoilt_4 hl (by decide) rfl (fun ls hl => ?_)
  refine mt_lpI3 hf (fun (x1 : Int32) (x2 : Int32) (M3 : mt_M) => ∀ (H : Heap) (locs : List Loc) (ls : Array Slot), mt_H E M3 u H → va_S (mt_A E) s.heap H locs → lv_has ls 5 [(0, .ref (E.2.1 133)), (1, .int a1), (2, .int a2), (3, .int x1), (4, .int x2)] → W p l e (headSpec wsX8_mostPacksUnspoilt ({ frames := 4, cells := 0, slots := 0, locals := 91 } : Room)).room s mid (([.ref (E.2.1 133), .int a1, .int a2] : List Value).toArray) below meth c0 H locs 0 0 (MQ below (mt_Qi E r M' u) (([.ref (E.2.1 133), .int a1, .int a2] : List Value).toArray) s 0 0 (mt_A E)) (F0 mid 6 ls [])) ?_ _ _ _ hH hS (lv_sub hl [2, 3, 4, 1, 0] rfl)
  intro k4 ih5 x1 x2 M3 hf H locs ls hH hS hl
  refine lv_iload hx hb dX8_mostPacksUnspoilt_6 (lv_at hl 4 rfl) ?_
  refine lv_bipush (v := 20) hx hb dX8_mostPacksUnspoilt_8 (by decide) ?_
  refine lv_icmp_gt (tgt := 67) hx hb dX8_mostPacksUnspoilt_10 (by decide) (fun c6 => ?_) (fun c6 => ?_)
  · have hf := mt_ifT c6 hf
    refine lv_iload_n hx hb dX8_mostPacksUnspoilt_67 rfl (lv_at hl 3 rfl) ?_
    obtain ⟨i1, i2⟩ := mt_so2 hf
    subst i1
    subst i2
    exact mt_iret hx hb hr hI hH hS hlocks dX8_mostPacksUnspoilt_68
  · have hf := mt_ifF c6 hf
    refine lv_aload_n hx hb dX8_mostPacksUnspoilt_13 rfl (lv_at hl 0 rfl) ?_
    refine lv_iload_n hx hb dX8_mostPacksUnspoilt_14 rfl (lv_at hl 1 rfl) ?_
    refine lv_aload_n hx hb dX8_mostPacksUnspoilt_15 rfl (lv_at hl 0 rfl) ?_
    refine lv_iload_n hx hb dX8_mostPacksUnspoilt_16 rfl (lv_at hl 1 rfl) ?_
    refine lv_iload hx hb dX8_mostPacksUnspoilt_17 (lv_at hl 4 rfl) ?_
    refine mt_b1I hf (fun r8 hg7 hf => ?_)
    refine mt_goi (mt_runV (i := 133) (As := [.int a1, .int x2]) (rest := [.int a1, .ref (E.2.1 133)]) ⟨hx, hb, hml, hown, hts⟩ hI hH (c_X8_stockWith l E a1 x2 M3 u _ hg7) (cwV 2 hts gX8_mostPacksUnspoilt_X8_stockWith rfl rfl rfl (by decide +kernel) ⟨Nat.le_of_ble_eq_true rfl, Nat.le_of_ble_eq_true rfl⟩) mt_T133 rfl rfl hl.1 rfl (Nat.le_of_ble_eq_true rfl) dX8_mostPacksUnspoilt_19 ⟨Nat.zero_le _, Nat.zero_le _⟩) hS (fun H locs hH hS => ?_)
    refine lv_iload_n hx hb dX8_mostPacksUnspoilt_22 rfl (lv_at hl 2 rfl) ?_
    refine mt_b1I hf (fun M10 hg9 hf => ?_)
    refine mt_gov (mt_runV (i := 133) (As := [.int a1, .int r8, .int a2]) (rest := []) ⟨hx, hb, hml, hown, hts⟩ hI hH (c_X8_liveDaysOf l E a1 r8 a2 M3 u _ hg9) (cwV 3 hts gX8_mostPacksUnspoilt_X8_liveDaysOf rfl rfl rfl (by decide +kernel) ⟨Nat.le_of_ble_eq_true rfl, Nat.le_of_ble_eq_true rfl⟩) mt_T133 rfl rfl hl.1 rfl (Nat.le_of_ble_eq_true rfl) dX8_mostPacksUnspoilt_23 ⟨Nat.zero_le _, Nat.zero_le _⟩) hS (fun H locs hH hS => ?_)
    refine lv_iload hx hb dX8_mostPacksUnspoilt_26 (lv_at hl 4 rfl) ?_
    refine mt_jn0 hf (∀ (H : Heap) (locs : List Loc) (ls : Array Slot), mt_H E M10 u H → va_S (mt_A E) s.heap H locs → lv_has ls 5 [(0, .ref (E.2.1 133)), (1, .int a1), (2, .int a2), (3, .int x1), (4, .int x2)] → W p l e (headSpec wsX8_mostPacksUnspoilt ({ frames := 4, cells := 0, slots := 0, locals := 91 } : Room)).room s mid (([.ref (E.2.1 133), .int a1, .int a2] : List Value).toArray) below meth c0 H locs 0 0 (MQ below (mt_Qi E r M' u) (([.ref (E.2.1 133), .int a1, .int a2] : List Value).toArray) s 0 0 (mt_A E)) (F0 mid 44 ls [])) ?_ ?_
    · intro hf H locs ls hH hS hl
      refine lv_aload_n hx hb dX8_mostPacksUnspoilt_44 rfl (lv_at hl 0 rfl) ?_
      refine mt_getr (C := RX8) (T := TX8) (N := 5) hx hb hts hinX8 hown hI hH mt_T133 rfl 1 (by decide) kw0 rfl rfl dX8_mostPacksUnspoilt_45 ?_
      refine mt_getiN (C := RX0) (T := TX0) (N := 12) hx hb hts hinX0 hown hI hH mt_T137 rfl 11 (by decide) (List.mem_of_getElem? (i := 7) rfl) rfl rfl dX8_mostPacksUnspoilt_48 ?_
      refine mt_jn1 hf (fun (v13 : Int32) => ∀ (H : Heap) (locs : List Loc) (ls : Array Slot), mt_H E M10 u H → va_S (mt_A E) s.heap H locs → lv_has ls 5 [(0, .ref (E.2.1 133)), (1, .int a1), (2, .int a2), (4, .int x2)] → W p l e (headSpec wsX8_mostPacksUnspoilt ({ frames := 4, cells := 0, slots := 0, locals := 91 } : Room)).room s mid (([.ref (E.2.1 133), .int a1, .int a2] : List Value).toArray) below meth c0 H locs 0 0 (MQ below (mt_Qi E r M' u) (([.ref (E.2.1 133), .int a1, .int a2] : List Value).toArray) s 0 0 (mt_A E)) (F0 mid 60 ls [.int v13])) ?_ ?_
      · intro v13 hf H locs ls hH hS hl
        refine lv_istore_n (lv' := [(3, .int v13), (0, .ref (E.2.1 133)), (1, .int a1), (2, .int a2), (4, .int x2)]) hx hb dX8_mostPacksUnspoilt_60 rfl hl (by decide) rfl (fun ls hl => ?_)
        refine mt_ltI hf (fun x16 ex16 hf => ?_)
        refine lv_iinc (v := x16) (lv' := [(4, .int x16), (3, .int v13), (0, .ref (E.2.1 133)), (1, .int a1), (2, .int a2)]) hx hb dX8_mostPacksUnspoilt_61 hl (k := 4) rfl (by rw [ex16]; rfl) (by decide) rfl (fun ls hl => ?_)
        refine lv_goto (tgt := 6) hx hb dX8_mostPacksUnspoilt_64 (by decide) ?_
        exact ih5 v13 x16 M10 hf _ _ _ hH hS (lv_sub hl [2, 3, 4, 1, 0] rfl)
      · intro j14 hj15 hf
        refine lv_if_ne (tgt := 59) hx hb dX8_mostPacksUnspoilt_51 (by decide) (fun c17 => ?_) (fun c17 => ?_)
        · have hf := mt_ifF c17 hf
          refine lv_iload_n hx hb dX8_mostPacksUnspoilt_59 rfl (lv_at hl 3 rfl) ?_
          exact hj15 x1 hf _ _ _ hH hS (lv_sub hl [0, 1, 2, 4] rfl)
        · have hf := mt_ifT c17 hf
          refine lv_iload hx hb dX8_mostPacksUnspoilt_54 (lv_at hl 4 rfl) ?_
          refine lv_goto (tgt := 60) hx hb dX8_mostPacksUnspoilt_56 (by decide) ?_
          exact hj15 x2 hf _ _ _ hH hS (lv_sub hl [0, 1, 2, 4] rfl)
    · intro j11 hj12 hf
      refine lv_if_ne (tgt := 44) hx hb dX8_mostPacksUnspoilt_28 (by decide) (fun c18 => ?_) (fun c18 => ?_)
      · have hf := mt_ifF c18 hf
        exact hj12 hf _ _ _ hH hS (lv_sub hl [0, 1, 2, 3, 4] rfl)
      · have hf := mt_ifT c18 hf
        refine lv_aload_n hx hb dX8_mostPacksUnspoilt_31 rfl (lv_at hl 0 rfl) ?_
        refine mt_getr (C := RX8) (T := TX8) (N := 5) hx hb hts hinX8 hown hI hH mt_T133 rfl 1 (by decide) kw0 rfl rfl dX8_mostPacksUnspoilt_32 ?_
        refine mt_getiN (C := RX0) (T := TX0) (N := 12) hx hb hts hinX0 hown hI hH mt_T137 rfl 11 (by decide) (List.mem_of_getElem? (i := 7) rfl) rfl rfl dX8_mostPacksUnspoilt_35 ?_
        refine lv_if_le (tgt := 44) hx hb dX8_mostPacksUnspoilt_38 (by decide) (fun c19 => ?_) (fun c19 => ?_)
        · have hf := mt_ifT c19 hf
          exact hj12 hf _ _ _ hH hS (lv_sub hl [0, 1, 2, 3, 4] rfl)
        · have hf := mt_ifF c19 hf
          refine lv_bipush (v := (-9)) hx hb dX8_mostPacksUnspoilt_41 (by decide) ?_
          obtain ⟨i1, i2⟩ := mt_so2 hf
          subst i1
          subst i2
          exact mt_iret hx hb hr hI hH hS hlocks dX8_mostPacksUnspoilt_43
set_option maxHeartbeats 4000000 in
set_option maxRecDepth 100000 in
theorem c_X8_nothingLacksBy (l : Launch) (E : mt_E) (a1 : Int32) (a2 : Int32) (M : mt_M) (u : mt_U) (r : Int32) (M' : mt_M) (hf : f_X8_nothingLacksBy a1 a2 M = some (r, M')) : Met l yX8_nothingLacksBy wsX8_nothingLacksBy ({ frames := 3, cells := 0, slots := 0, locals := 68 } : Room) (mt_P E [.ref (E.2.1 133), .int a1, .int a2] M u) (mt_Qi E r M' u) 0 0 (mt_A E) := by
  refine Met.ofW (cc := cX8_nothingLacksBy) (maxL := 6) (ret := (some .boolean)) (by decide) rfl ?_
  intro p e s mid args below meth c0 s₁ B hml hv
  obtain ⟨rfl, hI, hH⟩ := hv
  have hx := B.exec
  have hb := B.bytes
  have hr := B.returns
  have hts := atoms_spec (ws := wsX8_nothingLacksBy) B.pre
  have hown : s.vm.findClass RX8 = some mid.cls := findClass_of_methodNamed B.named
  have hlocks := B.notSynchronized
  have hS : va_S (mt_A E) s.heap s.heap [] := va_S.rf
  have hl := lv_entry ([.ref (E.2.1 133), .int a1, .int a2]) (n := 6) (Nat.le_of_ble_eq_true rfl)
  rw [lg_entry_eq]
  generalize (lg_sl ([.ref (E.2.1 133), .int a1, .int a2]) ++ List.replicate (6 - (lg_sl ([.ref (E.2.1 133), .int a1, .int a2])).length) Slot.unset).toArray = ls at hl ⊢
  have hl : lv_has ls 6 [(0, .ref (E.2.1 133)), (1, .int a1), (2, .int a2)] := hl
  unfold f_X8_nothingLacksBy at hf
  have kw0 := hts (.fieldLink RX8 30 "MilkTwice$Mind" "shelf" "LMilkTwice$Cupboard;") (List.mem_of_getElem? (i := 1) rfl)
  have hinX8 : ∀ w ∈ u_ws RX8 TX8 5, w ∈ wsX8_nothingLacksBy := fun w h => List.mem_cons_of_mem _ (List.mem_append_left _ (List.mem_append_left _ (List.mem_append_right _ h)))
  have hinX0 : ∀ w ∈ u_ws RX0 TX0 12, w ∈ wsX8_nothingLacksBy := fun w h => List.mem_cons_of_mem _ (List.mem_append_left _ (List.mem_append_right _ h))
  refine lv_aload_n hx hb dX8_nothingLacksBy_0 rfl (lv_at hl 0 rfl) ?_
  refine mt_b1I hf (fun M2 hg1 hf => ?_)
  refine mt_gov (mt_runV (i := 133) (As := []) (rest := []) ⟨hx, hb, hml, hown, hts⟩ hI hH (c_X8_begin l E M u _ hg1) (cwV 0 hts gX8_nothingLacksBy_X8_begin rfl rfl rfl (by decide +kernel) ⟨Nat.le_of_ble_eq_true rfl, Nat.le_of_ble_eq_true rfl⟩) mt_T133 rfl rfl hl.1 rfl (Nat.le_of_ble_eq_true rfl) dX8_nothingLacksBy_1 ⟨Nat.zero_le _, Nat.zero_le _⟩) hS (fun H locs hH hS => ?_)
  refine lv_iconst (v := 0) hx hb dX8_nothingLacksBy_4 (by decide) ?_
  refine lv_istore_n (lv' := [(3, .int (0 : Int32)), (0, .ref (E.2.1 133)), (1, .int a1), (2, .int a2)]) hx hb dX8_nothingLacksBy_5 rfl hl (by decide) rfl (fun ls hl => ?_)
  refine lv_iconst (v := 0) hx hb dX8_nothingLacksBy_6 (by decide) ?_
  refine lv_istore (lv' := [(4, .int (0 : Int32)), (3, .int (0 : Int32)), (0, .ref (E.2.1 133)), (1, .int a1), (2, .int a2)]) hx hb dX8_nothingLacksBy_7 hl (by decide) rfl (fun ls hl => ?_)
  refine mt_lpI3 hf (fun (x3 : Int32) (x4 : Int32) (M5 : mt_M) => ∀ (H : Heap) (locs : List Loc) (ls : Array Slot), mt_H E M5 u H → va_S (mt_A E) s.heap H locs → lv_has ls 6 [(0, .ref (E.2.1 133)), (1, .int a1), (2, .int a2), (3, .int x3), (4, .int x4)] → W p l e (headSpec wsX8_nothingLacksBy ({ frames := 3, cells := 0, slots := 0, locals := 68 } : Room)).room s mid (([.ref (E.2.1 133), .int a1, .int a2] : List Value).toArray) below meth c0 H locs 0 0 (MQ below (mt_Qi E r M' u) (([.ref (E.2.1 133), .int a1, .int a2] : List Value).toArray) s 0 0 (mt_A E)) (F0 mid 9 ls [])) ?_ _ _ _ hH hS (lv_sub hl [2, 3, 4, 1, 0] rfl)
  intro k6 ih7 x3 x4 M5 hf H locs ls hH hS hl
  refine lv_iload hx hb dX8_nothingLacksBy_9 (lv_at hl 4 rfl) ?_
  refine lv_bipush (v := 30) hx hb dX8_nothingLacksBy_11 (by decide) ?_
  refine mt_jn0 hf (∀ (H : Heap) (locs : List Loc) (ls : Array Slot), mt_H E M5 u H → va_S (mt_A E) s.heap H locs → lv_has ls 6 [(0, .ref (E.2.1 133))] → W p l e (headSpec wsX8_nothingLacksBy ({ frames := 3, cells := 0, slots := 0, locals := 68 } : Room)).room s mid (([.ref (E.2.1 133), .int a1, .int a2] : List Value).toArray) below meth c0 H locs 0 0 (MQ below (mt_Qi E r M' u) (([.ref (E.2.1 133), .int a1, .int a2] : List Value).toArray) s 0 0 (mt_A E)) (F0 mid 80 ls [])) ?_ ?_
  · intro hf H locs ls hH hS hl
    refine lv_aload_n hx hb dX8_nothingLacksBy_80 rfl (lv_at hl 0 rfl) ?_
    refine mt_getr (C := RX8) (T := TX8) (N := 5) hx hb hts hinX8 hown hI hH mt_T133 rfl 1 (by decide) kw0 rfl rfl dX8_nothingLacksBy_81 ?_
    refine mt_getiN (C := RX0) (T := TX0) (N := 12) hx hb hts hinX0 hown hI hH mt_T137 rfl 10 (by decide) (List.mem_of_getElem? (i := 5) rfl) rfl rfl dX8_nothingLacksBy_84 ?_
    refine lv_if_ne (tgt := 94) hx hb dX8_nothingLacksBy_87 (by decide) (fun c10 => ?_) (fun c10 => ?_)
    · have hf := mt_ifF c10 hf
      refine lv_iconst (v := 0) hx hb dX8_nothingLacksBy_94 (by decide) ?_
      obtain ⟨i1, i2⟩ := mt_so2 hf
      subst i1
      subst i2
      exact mt_zret hx hb hr hI hH hS (by decide) hlocks dX8_nothingLacksBy_95
    · have hf := mt_ifT c10 hf
      refine lv_iconst (v := 1) hx hb dX8_nothingLacksBy_90 (by decide) ?_
      refine lv_goto (tgt := 95) hx hb dX8_nothingLacksBy_91 (by decide) ?_
      obtain ⟨i1, i2⟩ := mt_so2 hf
      subst i1
      subst i2
      exact mt_zret hx hb hr hI hH hS (by decide) hlocks dX8_nothingLacksBy_95
  · intro j8 hj9 hf
    refine lv_icmp_ge (tgt := 80) hx hb dX8_nothingLacksBy_13 (by decide) (fun c11 => ?_) (fun c11 => ?_)
    · have hf := mt_ifT c11 hf
      exact hj9 hf _ _ _ hH hS (lv_sub hl [0] rfl)
    · have hf := mt_ifF c11 hf
      refine lv_aload_n hx hb dX8_nothingLacksBy_16 rfl (lv_at hl 0 rfl) ?_
      refine mt_getr (C := RX8) (T := TX8) (N := 5) hx hb hts hinX8 hown hI hH mt_T133 rfl 1 (by decide) kw0 rfl rfl dX8_nothingLacksBy_17 ?_
      refine mt_getiN (C := RX0) (T := TX0) (N := 12) hx hb hts hinX0 hown hI hH mt_T137 rfl 10 (by decide) (List.mem_of_getElem? (i := 5) rfl) rfl rfl dX8_nothingLacksBy_20 ?_
      refine lv_if_ne (tgt := 80) hx hb dX8_nothingLacksBy_23 (by decide) (fun c12 => ?_) (fun c12 => ?_)
      · have hf := mt_ifF c12 hf
        exact hj9 hf _ _ _ hH hS (lv_sub hl [0] rfl)
      · have hf := mt_ifT c12 hf
        refine lv_iload_n hx hb dX8_nothingLacksBy_26 rfl (lv_at hl 3 rfl) ?_
        refine mt_jn2 hf (fun (x13 : Int32) (M14 : mt_M) => ∀ (H : Heap) (locs : List Loc) (ls : Array Slot), mt_H E M14 u H → va_S (mt_A E) s.heap H locs → lv_has ls 6 [(0, .ref (E.2.1 133)), (1, .int a1), (2, .int a2), (3, .int x13), (4, .int x4)] → W p l e (headSpec wsX8_nothingLacksBy ({ frames := 3, cells := 0, slots := 0, locals := 68 } : Room)).room s mid (([.ref (E.2.1 133), .int a1, .int a2] : List Value).toArray) below meth c0 H locs 0 0 (MQ below (mt_Qi E r M' u) (([.ref (E.2.1 133), .int a1, .int a2] : List Value).toArray) s 0 0 (mt_A E)) (F0 mid 63 ls [])) ?_ ?_
        · intro x13 M14 hf H locs ls hH hS hl
          refine mt_ltI hf (fun x17 ex17 hf => ?_)
          refine lv_iinc (v := x17) (lv' := [(3, .int x17), (0, .ref (E.2.1 133)), (1, .int a1), (2, .int a2), (4, .int x4)]) hx hb dX8_nothingLacksBy_63 hl (k := 3) rfl (by rw [ex17]; rfl) (by decide) rfl (fun ls hl => ?_)
          refine lv_aload_n hx hb dX8_nothingLacksBy_66 rfl (lv_at hl 1 rfl) ?_
          refine mt_getr (C := RX8) (T := TX8) (N := 5) hx hb hts hinX8 hown hI hH mt_T133 rfl 1 (by decide) kw0 rfl rfl dX8_nothingLacksBy_67 ?_
          refine mt_b2I hf (fun r19 M20 hg18 hf => ?_)
          refine mt_goi (mt_runV (i := 137) (As := []) (rest := []) ⟨hx, hb, hml, hown, hts⟩ hI hH (c_X0_liveDay l E 137 (by decide) M14 u _ _ hg18) (cwV 0 hts gX8_nothingLacksBy_X0_liveDay rfl rfl rfl (by decide +kernel) ⟨Nat.le_of_ble_eq_true rfl, Nat.le_of_ble_eq_true rfl⟩) mt_T137 rfl rfl hl.1 rfl (Nat.le_of_ble_eq_true rfl) dX8_nothingLacksBy_70 ⟨Nat.zero_le _, Nat.zero_le _⟩) hS (fun H locs hH hS => ?_)
          refine lv_pop hx hb dX8_nothingLacksBy_73 rfl ?_
          refine mt_ltI hf (fun x21 ex21 hf => ?_)
          refine lv_iinc (v := x21) (lv' := [(4, .int x21), (3, .int x17), (0, .ref (E.2.1 133)), (1, .int a1), (2, .int a2)]) hx hb dX8_nothingLacksBy_74 hl (k := 4) rfl (by rw [ex21]; rfl) (by decide) rfl (fun ls hl => ?_)
          refine lv_goto (tgt := 9) hx hb dX8_nothingLacksBy_77 (by decide) ?_
          exact ih7 x17 x21 M20 hf _ _ _ hH hS (lv_sub hl [2, 3, 4, 1, 0] rfl)
        · intro j15 hj16 hf
          refine lv_if_ne (tgt := 63) hx hb dX8_nothingLacksBy_27 (by decide) (fun c22 => ?_) (fun c22 => ?_)
          · have hf := mt_ifF c22 hf
            exact hj16 x3 M5 hf _ _ _ hH hS (lv_sub hl [0, 1, 2, 3, 4] rfl)
          · have hf := mt_ifT c22 hf
            refine lv_iconst (v := 0) hx hb dX8_nothingLacksBy_30 (by decide) ?_
            refine lv_istore (lv' := [(5, .int (0 : Int32)), (0, .ref (E.2.1 133)), (1, .int a1), (2, .int a2), (3, .int x3), (4, .int x4)]) hx hb dX8_nothingLacksBy_31 hl (by decide) rfl (fun ls hl => ?_)
            refine mt_lpI2 hf (fun (x23 : Int32) (M24 : mt_M) => ∀ (H : Heap) (locs : List Loc) (ls : Array Slot), mt_H E M24 u H → va_S (mt_A E) s.heap H locs → lv_has ls 6 [(0, .ref (E.2.1 133)), (1, .int a1), (2, .int a2), (4, .int x4), (5, .int x23)] → W p l e (headSpec wsX8_nothingLacksBy ({ frames := 3, cells := 0, slots := 0, locals := 68 } : Room)).room s mid (([.ref (E.2.1 133), .int a1, .int a2] : List Value).toArray) below meth c0 H locs 0 0 (MQ below (mt_Qi E r M' u) (([.ref (E.2.1 133), .int a1, .int a2] : List Value).toArray) s 0 0 (mt_A E)) (F0 mid 33 ls [])) ?_ _ _ _ hH hS (lv_sub hl [1, 2, 3, 5, 0] rfl)
            intro k25 ih26 x23 M24 hf H locs ls hH hS hl
            refine lv_iload hx hb dX8_nothingLacksBy_33 (lv_at hl 4 rfl) ?_
            refine lv_aload_n hx hb dX8_nothingLacksBy_35 rfl (lv_at hl 0 rfl) ?_
            refine mt_getr (C := RX8) (T := TX8) (N := 5) hx hb hts hinX8 hown hI hH mt_T133 rfl 1 (by decide) kw0 rfl rfl dX8_nothingLacksBy_36 ?_
            refine mt_getiN (C := RX0) (T := TX0) (N := 12) hx hb hts hinX0 hown hI hH mt_T137 rfl 8 (by decide) (List.mem_of_getElem? (i := 1) rfl) rfl rfl dX8_nothingLacksBy_39 ?_
            refine lv_icmp_ge (tgt := 61) hx hb dX8_nothingLacksBy_42 (by decide) (fun c27 => ?_) (fun c27 => ?_)
            · have hf := mt_ifT c27 hf
              refine lv_iload_n hx hb dX8_nothingLacksBy_61 rfl (lv_at hl 2 rfl) ?_
              refine lv_istore_n (lv' := [(3, .int a2), (0, .ref (E.2.1 133)), (1, .int a1), (2, .int a2), (4, .int x4), (5, .int x23)]) hx hb dX8_nothingLacksBy_62 rfl hl (by decide) rfl (fun ls hl => ?_)
              exact hj16 a2 M24 hf _ _ _ hH hS (lv_sub hl [1, 2, 3, 0, 4] rfl)
            · have hf := mt_ifF c27 hf
              refine lv_aload_n hx hb dX8_nothingLacksBy_45 rfl (lv_at hl 0 rfl) ?_
              refine mt_getr (C := RX8) (T := TX8) (N := 5) hx hb hts hinX8 hown hI hH mt_T133 rfl 1 (by decide) kw0 rfl rfl dX8_nothingLacksBy_46 ?_
              refine lv_iload hx hb dX8_nothingLacksBy_49 (lv_at hl 4 rfl) ?_
              refine lv_iload_n hx hb dX8_nothingLacksBy_51 rfl (lv_at hl 1 rfl) ?_
              refine mt_b1I hf (fun M29 hg28 hf => ?_)
              refine mt_gov (mt_runV (i := 137) (As := [.int x23, .int a1]) (rest := []) ⟨hx, hb, hml, hown, hts⟩ hI hH (c_X0_buy l E 137 (by decide) x23 a1 M24 u _ hg28) (cwV 2 hts gX8_nothingLacksBy_X0_buy rfl rfl rfl (by decide +kernel) ⟨Nat.le_of_ble_eq_true rfl, Nat.le_of_ble_eq_true rfl⟩) mt_T137 rfl rfl hl.1 rfl (Nat.le_of_ble_eq_true rfl) dX8_nothingLacksBy_52 ⟨Nat.zero_le _, Nat.zero_le _⟩) hS (fun H locs hH hS => ?_)
              refine mt_ltI hf (fun x30 ex30 hf => ?_)
              refine lv_iinc (v := x30) (lv' := [(5, .int x30), (0, .ref (E.2.1 133)), (1, .int a1), (2, .int a2), (4, .int x4)]) hx hb dX8_nothingLacksBy_55 hl (k := 4) rfl (by rw [ex30]; rfl) (by decide) rfl (fun ls hl => ?_)
              refine lv_goto (tgt := 33) hx hb dX8_nothingLacksBy_58 (by decide) ?_
              exact ih26 x30 M29 hf _ _ _ hH hS (lv_sub hl [1, 2, 3, 4, 0] rfl)
set_option maxHeartbeats 4000000 in
set_option maxRecDepth 100000 in
theorem c_X8_longestInterval (l : Launch) (E : mt_E) (a1 : Int32) (M : mt_M) (u : mt_U) (r : Int32) (M' : mt_M) (hf : f_X8_longestInterval a1 M = some (r, M')) : Met l yX8_longestInterval wsX8_longestInterval ({ frames := 4, cells := 0, slots := 0, locals := 93 } : Room) (mt_P E [.ref (E.2.1 133), .int a1] M u) (mt_Qi E r M' u) 0 0 (mt_A E) := by
  refine Met.ofW (cc := cX8_longestInterval) (maxL := 3) (ret := (some .int)) (by decide) rfl ?_
  intro p e s mid args below meth c0 s₁ B hml hv
  obtain ⟨rfl, hI, hH⟩ := hv
  have hx := B.exec
  have hb := B.bytes
  have hr := B.returns
  have hts := atoms_spec (ws := wsX8_longestInterval) B.pre
  have hown : s.vm.findClass RX8 = some mid.cls := findClass_of_methodNamed B.named
  have hlocks := B.notSynchronized
  have hS : va_S (mt_A E) s.heap s.heap [] := va_S.rf
  have hl := lv_entry ([.ref (E.2.1 133), .int a1]) (n := 3) (Nat.le_of_ble_eq_true rfl)
  rw [lg_entry_eq]
  generalize (lg_sl ([.ref (E.2.1 133), .int a1]) ++ List.replicate (3 - (lg_sl ([.ref (E.2.1 133), .int a1])).length) Slot.unset).toArray = ls at hl ⊢
  have hl : lv_has ls 3 [(0, .ref (E.2.1 133)), (1, .int a1)] := hl
  unfold f_X8_longestInterval at hf
  refine lv_bipush (v := 30) hx hb dX8_longestInterval_0 (by decide) ?_
  refine lv_istore_n (lv' := [(2, .int (30 : Int32)), (0, .ref (E.2.1 133)), (1, .int a1)]) hx hb dX8_longestInterval_2 rfl hl (by decide) rfl (fun ls hl => ?_)
  refine mt_lpI2 hf (fun (x1 : Int32) (M2 : mt_M) => ∀ (H : Heap) (locs : List Loc) (ls : Array Slot), mt_H E M2 u H → va_S (mt_A E) s.heap H locs → lv_has ls 3 [(0, .ref (E.2.1 133)), (1, .int a1), (2, .int x1)] → W p l e (headSpec wsX8_longestInterval ({ frames := 4, cells := 0, slots := 0, locals := 93 } : Room)).room s mid (([.ref (E.2.1 133), .int a1] : List Value).toArray) below meth c0 H locs 0 0 (MQ below (mt_Qi E r M' u) (([.ref (E.2.1 133), .int a1] : List Value).toArray) s 0 0 (mt_A E)) (F0 mid 3 ls [])) ?_ _ _ _ hH hS (lv_sub hl [1, 2, 0] rfl)
  intro k3 ih4 x1 M2 hf H locs ls hH hS hl
  refine lv_iload_n hx hb dX8_longestInterval_3 rfl (lv_at hl 2 rfl) ?_
  refine lv_iconst (v := 1) hx hb dX8_longestInterval_4 (by decide) ?_
  refine lv_icmp_lt (tgt := 25) hx hb dX8_longestInterval_5 (by decide) (fun c5 => ?_) (fun c5 => ?_)
  · have hf := mt_ifT c5 hf
    refine lv_bipush (v := (-9)) hx hb dX8_longestInterval_25 (by decide) ?_
    obtain ⟨i1, i2⟩ := mt_so2 hf
    subst i1
    subst i2
    exact mt_iret hx hb hr hI hH hS hlocks dX8_longestInterval_27
  · have hf := mt_ifF c5 hf
    refine lv_aload_n hx hb dX8_longestInterval_8 rfl (lv_at hl 0 rfl) ?_
    refine lv_iload_n hx hb dX8_longestInterval_9 rfl (lv_at hl 1 rfl) ?_
    refine lv_iload_n hx hb dX8_longestInterval_10 rfl (lv_at hl 2 rfl) ?_
    refine mt_b2I hf (fun r7 M8 hg6 hf => ?_)
    refine mt_goi (mt_runV (i := 133) (As := [.int a1, .int x1]) (rest := []) ⟨hx, hb, hml, hown, hts⟩ hI hH (c_X8_nothingLacksBy l E a1 x1 M2 u _ _ hg6) (cwV 2 hts gX8_longestInterval_X8_nothingLacksBy rfl rfl rfl (by decide +kernel) ⟨Nat.le_of_ble_eq_true rfl, Nat.le_of_ble_eq_true rfl⟩) mt_T133 rfl rfl hl.1 rfl (Nat.le_of_ble_eq_true rfl) dX8_longestInterval_11 ⟨Nat.zero_le _, Nat.zero_le _⟩) hS (fun H locs hH hS => ?_)
    refine lv_if_eq (tgt := 19) hx hb dX8_longestInterval_14 (by decide) (fun c9 => ?_) (fun c9 => ?_)
    · have hf := mt_ifT c9 hf
      refine mt_ltI hf (fun x10 ex10 hf => ?_)
      refine lv_iinc (v := x10) (lv' := [(2, .int x10), (0, .ref (E.2.1 133)), (1, .int a1)]) hx hb dX8_longestInterval_19 hl (k := 2) rfl (by rw [ex10]; rfl) (by decide) rfl (fun ls hl => ?_)
      refine lv_goto (tgt := 3) hx hb dX8_longestInterval_22 (by decide) ?_
      exact ih4 x10 M8 hf _ _ _ hH hS (lv_sub hl [1, 2, 0] rfl)
    · have hf := mt_ifF c9 hf
      refine lv_iload_n hx hb dX8_longestInterval_17 rfl (lv_at hl 2 rfl) ?_
      obtain ⟨i1, i2⟩ := mt_so2 hf
      subst i1
      subst i2
      exact mt_iret hx hb hr hI hH hS hlocks dX8_longestInterval_18
set_option maxHeartbeats 4000000 in
set_option maxRecDepth 100000 in
theorem c_X8_isSomethingShort (l : Launch) (E : mt_E)  (M : mt_M) (u : mt_U) (r : Int32) (hf : f_X8_isSomethingShort M = some (r)) : Met l yX8_isSomethingShort wsX8_isSomethingShort ({ frames := 2, cells := 0, slots := 0, locals := 42 } : Room) (mt_P E [.ref (E.2.1 133)] M u) (mt_Qi E r M u) 0 0 (mt_A E) := by
  refine Met.ofW (cc := cX8_isSomethingShort) (maxL := 3) (ret := (some .boolean)) (by decide) rfl ?_
  intro p e s mid args below meth c0 s₁ B hml hv
  obtain ⟨rfl, hI, hH⟩ := hv
  have hx := B.exec
  have hb := B.bytes
  have hr := B.returns
  have hts := atoms_spec (ws := wsX8_isSomethingShort) B.pre
  have hown : s.vm.findClass RX8 = some mid.cls := findClass_of_methodNamed B.named
  have hlocks := B.notSynchronized
  have hS : va_S (mt_A E) s.heap s.heap [] := va_S.rf
  have hl := lv_entry ([.ref (E.2.1 133)]) (n := 3) (Nat.le_of_ble_eq_true rfl)
  rw [lg_entry_eq]
  generalize (lg_sl ([.ref (E.2.1 133)]) ++ List.replicate (3 - (lg_sl ([.ref (E.2.1 133)])).length) Slot.unset).toArray = ls at hl ⊢
  have hl : lv_has ls 3 [(0, .ref (E.2.1 133))] := hl
  unfold f_X8_isSomethingShort at hf
  have kw0 := hts (.fieldLink RX8 30 "MilkTwice$Mind" "shelf" "LMilkTwice$Cupboard;") (List.mem_of_getElem? (i := 1) rfl)
  have hinX8 : ∀ w ∈ u_ws RX8 TX8 5, w ∈ wsX8_isSomethingShort := fun w h => List.mem_cons_of_mem _ (List.mem_append_left _ (List.mem_append_right _ h))
  have hinX0 : ∀ w ∈ u_ws RX0 TX0 12, w ∈ wsX8_isSomethingShort := fun w h => List.mem_cons_of_mem _ (List.mem_append_right _ h)
  refine lv_iconst (v := 0) hx hb dX8_isSomethingShort_0 (by decide) ?_
  refine lv_istore_n (lv' := [(1, .int (0 : Int32)), (0, .ref (E.2.1 133))]) hx hb dX8_isSomethingShort_1 rfl hl (by decide) rfl (fun ls hl => ?_)
  refine lv_iconst (v := 0) hx hb dX8_isSomethingShort_2 (by decide) ?_
  refine lv_istore_n (lv' := [(2, .int (0 : Int32)), (1, .int (0 : Int32)), (0, .ref (E.2.1 133))]) hx hb dX8_isSomethingShort_3 rfl hl (by decide) rfl (fun ls hl => ?_)
  refine mt_lpI2 hf (fun (x1 : Int32) (x2 : Int32) => ∀ (H : Heap) (locs : List Loc) (ls : Array Slot), mt_H E M u H → va_S (mt_A E) s.heap H locs → lv_has ls 3 [(0, .ref (E.2.1 133)), (1, .int x1), (2, .int x2)] → W p l e (headSpec wsX8_isSomethingShort ({ frames := 2, cells := 0, slots := 0, locals := 42 } : Room)).room s mid (([.ref (E.2.1 133)] : List Value).toArray) below meth c0 H locs 0 0 (MQ below (mt_Qi E r M u) (([.ref (E.2.1 133)] : List Value).toArray) s 0 0 (mt_A E)) (F0 mid 4 ls [])) ?_ _ _ _ hH hS (lv_sub hl [2, 1, 0] rfl)
  intro k3 ih4 x1 x2 hf H locs ls hH hS hl
  refine lv_iload_n hx hb dX8_isSomethingShort_4 rfl (lv_at hl 2 rfl) ?_
  refine lv_aload_n hx hb dX8_isSomethingShort_5 rfl (lv_at hl 0 rfl) ?_
  refine mt_getr (C := RX8) (T := TX8) (N := 5) hx hb hts hinX8 hown hI hH mt_T133 rfl 1 (by decide) kw0 rfl rfl dX8_isSomethingShort_6 ?_
  refine mt_getiN (C := RX0) (T := TX0) (N := 12) hx hb hts hinX0 hown hI hH mt_T137 rfl 8 (by decide) (List.mem_of_getElem? (i := 1) rfl) rfl rfl dX8_isSomethingShort_9 ?_
  refine lv_icmp_ge (tgt := 50) hx hb dX8_isSomethingShort_12 (by decide) (fun c5 => ?_) (fun c5 => ?_)
  · have hf := mt_ifT c5 hf
    refine lv_iload_n hx hb dX8_isSomethingShort_50 rfl (lv_at hl 1 rfl) ?_
    refine mt_ckI hf (fun q6 hf => ?_)
    have i1 := mt_so1 hf
    subst i1
    exact mt_zret hx hb hr hI hH hS q6 hlocks dX8_isSomethingShort_51
  · have hf := mt_ifF c5 hf
    refine lv_iload_n hx hb dX8_isSomethingShort_15 rfl (lv_at hl 1 rfl) ?_
    refine mt_jn1 hf (fun (v7 : Int32) => ∀ (H : Heap) (locs : List Loc) (ls : Array Slot), mt_H E M u H → va_S (mt_A E) s.heap H locs → lv_has ls 3 [(0, .ref (E.2.1 133)), (2, .int x2)] → W p l e (headSpec wsX8_isSomethingShort ({ frames := 2, cells := 0, slots := 0, locals := 42 } : Room)).room s mid (([.ref (E.2.1 133)] : List Value).toArray) below meth c0 H locs 0 0 (MQ below (mt_Qi E r M u) (([.ref (E.2.1 133)] : List Value).toArray) s 0 0 (mt_A E)) (F0 mid 43 ls [.int v7])) ?_ ?_
    · intro v7 hf H locs ls hH hS hl
      refine lv_istore_n (lv' := [(1, .int v7), (0, .ref (E.2.1 133)), (2, .int x2)]) hx hb dX8_isSomethingShort_43 rfl hl (by decide) rfl (fun ls hl => ?_)
      refine mt_ltI hf (fun x10 ex10 hf => ?_)
      refine lv_iinc (v := x10) (lv' := [(2, .int x10), (1, .int v7), (0, .ref (E.2.1 133))]) hx hb dX8_isSomethingShort_44 hl (k := 2) rfl (by rw [ex10]; rfl) (by decide) rfl (fun ls hl => ?_)
      refine lv_goto (tgt := 4) hx hb dX8_isSomethingShort_47 (by decide) ?_
      exact ih4 v7 x10 hf _ _ _ hH hS (lv_sub hl [2, 1, 0] rfl)
    · intro j8 hj9 hf
      refine mt_jn0 hf (∀ (H : Heap) (locs : List Loc) (ls : Array Slot), mt_H E M u H → va_S (mt_A E) s.heap H locs → lv_has ls 3 [(0, .ref (E.2.1 133)), (2, .int x2)] → W p l e (headSpec wsX8_isSomethingShort ({ frames := 2, cells := 0, slots := 0, locals := 42 } : Room)).room s mid (([.ref (E.2.1 133)] : List Value).toArray) below meth c0 H locs 0 0 (MQ below (mt_Qi E r M u) (([.ref (E.2.1 133)] : List Value).toArray) s 0 0 (mt_A E)) (F0 mid 38 ls [])) ?_ ?_
      · intro hf H locs ls hH hS hl
        refine lv_iconst (v := 1) hx hb dX8_isSomethingShort_38 (by decide) ?_
        refine lv_goto (tgt := 43) hx hb dX8_isSomethingShort_39 (by decide) ?_
        exact hj9 (1 : Int32) hf _ _ _ hH hS (lv_sub hl [0, 1] rfl)
      · intro j11 hj12 hf
        refine lv_if_ne (tgt := 38) hx hb dX8_isSomethingShort_16 (by decide) (fun c13 => ?_) (fun c13 => ?_)
        · have hf := mt_ifF c13 hf
          exact hj12 hf _ _ _ hH hS (lv_sub hl [0, 2] rfl)
        · have hf := mt_ifT c13 hf
          refine lv_aload_n hx hb dX8_isSomethingShort_19 rfl (lv_at hl 0 rfl) ?_
          refine mt_getr (C := RX8) (T := TX8) (N := 5) hx hb hts hinX8 hown hI hH mt_T133 rfl 1 (by decide) kw0 rfl rfl dX8_isSomethingShort_20 ?_
          refine lv_iload_n hx hb dX8_isSomethingShort_23 rfl (lv_at hl 2 rfl) ?_
          refine mt_b1I hf (fun r15 hg14 hf => ?_)
          refine mt_goi (mt_runV (i := 137) (As := [.int x2]) (rest := []) ⟨hx, hb, hml, hown, hts⟩ hI hH (c_X0_stockOf l E 137 (by decide) x2 M u _ hg14) (cwV 1 hts gX8_isSomethingShort_X0_stockOf rfl rfl rfl (by decide +kernel) ⟨Nat.le_of_ble_eq_true rfl, Nat.le_of_ble_eq_true rfl⟩) mt_T137 rfl rfl hl.1 rfl (Nat.le_of_ble_eq_true rfl) dX8_isSomethingShort_24 ⟨Nat.zero_le _, Nat.zero_le _⟩) hS (fun H locs hH hS => ?_)
          refine lv_aload_n hx hb dX8_isSomethingShort_27 rfl (lv_at hl 0 rfl) ?_
          refine mt_getr (C := RX8) (T := TX8) (N := 5) hx hb hts hinX8 hown hI hH mt_T133 rfl 1 (by decide) kw0 rfl rfl dX8_isSomethingShort_28 ?_
          refine lv_iload_n hx hb dX8_isSomethingShort_31 rfl (lv_at hl 2 rfl) ?_
          refine mt_b1I hf (fun r17 hg16 hf => ?_)
          refine mt_goi (mt_runV (i := 137) (As := [.int x2]) (rest := [.int r15]) ⟨hx, hb, hml, hown, hts⟩ hI hH (c_X0_useOf l E 137 (by decide) x2 M u _ hg16) (cwV 1 hts gX8_isSomethingShort_X0_useOf rfl rfl rfl (by decide +kernel) ⟨Nat.le_of_ble_eq_true rfl, Nat.le_of_ble_eq_true rfl⟩) mt_T137 rfl rfl hl.1 rfl (Nat.le_of_ble_eq_true rfl) dX8_isSomethingShort_32 ⟨Nat.zero_le _, Nat.zero_le _⟩) hS (fun H locs hH hS => ?_)
          refine lv_icmp_ge (tgt := 42) hx hb dX8_isSomethingShort_35 (by decide) (fun c18 => ?_) (fun c18 => ?_)
          · have hf := mt_ifT c18 hf
            refine lv_iconst (v := 0) hx hb dX8_isSomethingShort_42 (by decide) ?_
            exact hj9 (0 : Int32) hf _ _ _ hH hS (lv_sub hl [0, 2] rfl)
          · have hf := mt_ifF c18 hf
            exact hj12 hf _ _ _ hH hS (lv_sub hl [0, 2] rfl)
set_option maxHeartbeats 4000000 in
set_option maxRecDepth 100000 in
theorem c_X8_buyWhatIsBelow (l : Launch) (E : mt_E) (a1 : Int32) (M : mt_M) (u : mt_U) (M' : mt_M) (hf : f_X8_buyWhatIsBelow a1 M = some (M')) : Met l yX8_buyWhatIsBelow wsX8_buyWhatIsBelow ({ frames := 3, cells := 0, slots := 0, locals := 65 } : Room) (mt_P E [.ref (E.2.1 133), .int a1] M u) (mt_Qv E M' u) 0 0 (mt_A E) := by
  refine Met.ofW (cc := cX8_buyWhatIsBelow) (maxL := 3) (ret := none) (by decide) rfl ?_
  intro p e s mid args below meth c0 s₁ B hml hv
  obtain ⟨rfl, hI, hH⟩ := hv
  have hx := B.exec
  have hb := B.bytes
  have hr := B.returns
  have hts := atoms_spec (ws := wsX8_buyWhatIsBelow) B.pre
  have hown : s.vm.findClass RX8 = some mid.cls := findClass_of_methodNamed B.named
  have hlocks := B.notSynchronized
  have hS : va_S (mt_A E) s.heap s.heap [] := va_S.rf
  have hl := lv_entry ([.ref (E.2.1 133), .int a1]) (n := 3) (Nat.le_of_ble_eq_true rfl)
  rw [lg_entry_eq]
  generalize (lg_sl ([.ref (E.2.1 133), .int a1]) ++ List.replicate (3 - (lg_sl ([.ref (E.2.1 133), .int a1])).length) Slot.unset).toArray = ls at hl ⊢
  have hl : lv_has ls 3 [(0, .ref (E.2.1 133)), (1, .int a1)] := hl
  unfold f_X8_buyWhatIsBelow at hf
  have kw0 := hts (.fieldLink RX8 30 "MilkTwice$Mind" "shelf" "LMilkTwice$Cupboard;") (List.mem_of_getElem? (i := 1) rfl)
  have hinX8 : ∀ w ∈ u_ws RX8 TX8 5, w ∈ wsX8_buyWhatIsBelow := fun w h => List.mem_cons_of_mem _ (List.mem_append_left _ (List.mem_append_right _ h))
  have hinX0 : ∀ w ∈ u_ws RX0 TX0 12, w ∈ wsX8_buyWhatIsBelow := fun w h => List.mem_cons_of_mem _ (List.mem_append_right _ h)
  refine lv_iconst (v := 0) hx hb dX8_buyWhatIsBelow_0 (by decide) ?_
  refine lv_istore_n (lv' := [(2, .int (0 : Int32)), (0, .ref (E.2.1 133)), (1, .int a1)]) hx hb dX8_buyWhatIsBelow_1 rfl hl (by decide) rfl (fun ls hl => ?_)
  refine mt_lpI2 hf (fun (x1 : Int32) (M2 : mt_M) => ∀ (H : Heap) (locs : List Loc) (ls : Array Slot), mt_H E M2 u H → va_S (mt_A E) s.heap H locs → lv_has ls 3 [(0, .ref (E.2.1 133)), (1, .int a1), (2, .int x1)] → W p l e (headSpec wsX8_buyWhatIsBelow ({ frames := 3, cells := 0, slots := 0, locals := 65 } : Room)).room s mid (([.ref (E.2.1 133), .int a1] : List Value).toArray) below meth c0 H locs 0 0 (MQ below (mt_Qv E M' u) (([.ref (E.2.1 133), .int a1] : List Value).toArray) s 0 0 (mt_A E)) (F0 mid 2 ls [])) ?_ _ _ _ hH hS (lv_sub hl [1, 2, 0] rfl)
  intro k3 ih4 x1 M2 hf H locs ls hH hS hl
  refine lv_iload_n hx hb dX8_buyWhatIsBelow_2 rfl (lv_at hl 2 rfl) ?_
  refine lv_aload_n hx hb dX8_buyWhatIsBelow_3 rfl (lv_at hl 0 rfl) ?_
  refine mt_getr (C := RX8) (T := TX8) (N := 5) hx hb hts hinX8 hown hI hH mt_T133 rfl 1 (by decide) kw0 rfl rfl dX8_buyWhatIsBelow_4 ?_
  refine mt_getiN (C := RX0) (T := TX0) (N := 12) hx hb hts hinX0 hown hI hH mt_T137 rfl 8 (by decide) (List.mem_of_getElem? (i := 1) rfl) rfl rfl dX8_buyWhatIsBelow_7 ?_
  refine lv_icmp_ge (tgt := 49) hx hb dX8_buyWhatIsBelow_10 (by decide) (fun c5 => ?_) (fun c5 => ?_)
  · have hf := mt_ifT c5 hf
    have i1 := mt_so1 hf
    subst i1
    exact mt_vret hx hb hr hI hH hS hlocks dX8_buyWhatIsBelow_49
  · have hf := mt_ifF c5 hf
    refine lv_aload_n hx hb dX8_buyWhatIsBelow_13 rfl (lv_at hl 0 rfl) ?_
    refine mt_getr (C := RX8) (T := TX8) (N := 5) hx hb hts hinX8 hown hI hH mt_T133 rfl 1 (by decide) kw0 rfl rfl dX8_buyWhatIsBelow_14 ?_
    refine lv_iload_n hx hb dX8_buyWhatIsBelow_17 rfl (lv_at hl 2 rfl) ?_
    refine mt_b1I hf (fun r7 hg6 hf => ?_)
    refine mt_goi (mt_runV (i := 137) (As := [.int x1]) (rest := []) ⟨hx, hb, hml, hown, hts⟩ hI hH (c_X0_stockOf l E 137 (by decide) x1 M2 u _ hg6) (cwV 1 hts gX8_buyWhatIsBelow_X0_stockOf rfl rfl rfl (by decide +kernel) ⟨Nat.le_of_ble_eq_true rfl, Nat.le_of_ble_eq_true rfl⟩) mt_T137 rfl rfl hl.1 rfl (Nat.le_of_ble_eq_true rfl) dX8_buyWhatIsBelow_18 ⟨Nat.zero_le _, Nat.zero_le _⟩) hS (fun H locs hH hS => ?_)
    refine lv_iload_n hx hb dX8_buyWhatIsBelow_21 rfl (lv_at hl 1 rfl) ?_
    refine lv_aload_n hx hb dX8_buyWhatIsBelow_22 rfl (lv_at hl 0 rfl) ?_
    refine mt_getr (C := RX8) (T := TX8) (N := 5) hx hb hts hinX8 hown hI hH mt_T133 rfl 1 (by decide) kw0 rfl rfl dX8_buyWhatIsBelow_23 ?_
    refine lv_iload_n hx hb dX8_buyWhatIsBelow_26 rfl (lv_at hl 2 rfl) ?_
    refine mt_b1I hf (fun r9 hg8 hf => ?_)
    refine mt_goi (mt_runV (i := 137) (As := [.int x1]) (rest := [.int a1, .int r7]) ⟨hx, hb, hml, hown, hts⟩ hI hH (c_X0_useOf l E 137 (by decide) x1 M2 u _ hg8) (cwV 1 hts gX8_buyWhatIsBelow_X0_useOf rfl rfl rfl (by decide +kernel) ⟨Nat.le_of_ble_eq_true rfl, Nat.le_of_ble_eq_true rfl⟩) mt_T137 rfl rfl hl.1 rfl (Nat.le_of_ble_eq_true rfl) dX8_buyWhatIsBelow_27 ⟨Nat.zero_le _, Nat.zero_le _⟩) hS (fun H locs hH hS => ?_)
    refine lv_imul hx hb dX8_buyWhatIsBelow_30 ?_
    refine mt_jn1 hf (fun (M10 : mt_M) => ∀ (H : Heap) (locs : List Loc) (ls : Array Slot), mt_H E M10 u H → va_S (mt_A E) s.heap H locs → lv_has ls 3 [(0, .ref (E.2.1 133)), (1, .int a1), (2, .int x1)] → W p l e (headSpec wsX8_buyWhatIsBelow ({ frames := 3, cells := 0, slots := 0, locals := 65 } : Room)).room s mid (([.ref (E.2.1 133), .int a1] : List Value).toArray) below meth c0 H locs 0 0 (MQ below (mt_Qv E M' u) (([.ref (E.2.1 133), .int a1] : List Value).toArray) s 0 0 (mt_A E)) (F0 mid 43 ls [])) ?_ ?_
    · intro M10 hf H locs ls hH hS hl
      refine mt_ltI hf (fun x13 ex13 hf => ?_)
      refine lv_iinc (v := x13) (lv' := [(2, .int x13), (0, .ref (E.2.1 133)), (1, .int a1)]) hx hb dX8_buyWhatIsBelow_43 hl (k := 2) rfl (by rw [ex13]; rfl) (by decide) rfl (fun ls hl => ?_)
      refine lv_goto (tgt := 2) hx hb dX8_buyWhatIsBelow_46 (by decide) ?_
      exact ih4 x13 M10 hf _ _ _ hH hS (lv_sub hl [1, 2, 0] rfl)
    · intro j11 hj12 hf
      refine lv_icmp_ge (tgt := 43) hx hb dX8_buyWhatIsBelow_31 (by decide) (fun c14 => ?_) (fun c14 => ?_)
      · have hf := mt_ifT c14 hf
        exact hj12 M2 hf _ _ _ hH hS (lv_sub hl [0, 1, 2] rfl)
      · have hf := mt_ifF c14 hf
        refine lv_aload_n hx hb dX8_buyWhatIsBelow_34 rfl (lv_at hl 0 rfl) ?_
        refine mt_getr (C := RX8) (T := TX8) (N := 5) hx hb hts hinX8 hown hI hH mt_T133 rfl 1 (by decide) kw0 rfl rfl dX8_buyWhatIsBelow_35 ?_
        refine lv_iload_n hx hb dX8_buyWhatIsBelow_38 rfl (lv_at hl 2 rfl) ?_
        refine lv_iconst (v := 1) hx hb dX8_buyWhatIsBelow_39 (by decide) ?_
        refine mt_b1I hf (fun M16 hg15 hf => ?_)
        refine mt_gov (mt_runV (i := 137) (As := [.int x1, .int (1 : Int32)]) (rest := []) ⟨hx, hb, hml, hown, hts⟩ hI hH (c_X0_buy l E 137 (by decide) x1 (1 : Int32) M2 u _ hg15) (cwV 2 hts gX8_buyWhatIsBelow_X0_buy rfl rfl rfl (by decide +kernel) ⟨Nat.le_of_ble_eq_true rfl, Nat.le_of_ble_eq_true rfl⟩) mt_T137 rfl rfl hl.1 rfl (Nat.le_of_ble_eq_true rfl) dX8_buyWhatIsBelow_40 ⟨Nat.zero_le _, Nat.zero_le _⟩) hS (fun H locs hH hS => ?_)
        exact hj12 M16 hf _ _ _ hH hS (lv_sub hl [0, 1, 2] rfl)
set_option maxHeartbeats 4000000 in
set_option maxRecDepth 100000 in
theorem c_X8_costOfTurns (l : Launch) (E : mt_E) (a1 : Int32) (a2 : Int32) (M : mt_M) (u : mt_U) (r : Int32) (M' : mt_M) (hf : f_X8_costOfTurns a1 a2 M = some (r, M')) : Met l yX8_costOfTurns wsX8_costOfTurns ({ frames := 4, cells := 0, slots := 0, locals := 87 } : Room) (mt_P E [.ref (E.2.1 133), .int a1, .int a2] M u) (mt_Qi E r M' u) 0 0 (mt_A E) := by
  refine Met.ofW (cc := cX8_costOfTurns) (maxL := 6) (ret := (some .int)) (by decide) rfl ?_
  intro p e s mid args below meth c0 s₁ B hml hv
  obtain ⟨rfl, hI, hH⟩ := hv
  have hx := B.exec
  have hb := B.bytes
  have hr := B.returns
  have hts := atoms_spec (ws := wsX8_costOfTurns) B.pre
  have hown : s.vm.findClass RX8 = some mid.cls := findClass_of_methodNamed B.named
  have hlocks := B.notSynchronized
  have hS : va_S (mt_A E) s.heap s.heap [] := va_S.rf
  have hl := lv_entry ([.ref (E.2.1 133), .int a1, .int a2]) (n := 6) (Nat.le_of_ble_eq_true rfl)
  rw [lg_entry_eq]
  generalize (lg_sl ([.ref (E.2.1 133), .int a1, .int a2]) ++ List.replicate (6 - (lg_sl ([.ref (E.2.1 133), .int a1, .int a2])).length) Slot.unset).toArray = ls at hl ⊢
  have hl : lv_has ls 6 [(0, .ref (E.2.1 133)), (1, .int a1), (2, .int a2)] := hl
  unfold f_X8_costOfTurns at hf
  have kw0 := hts (.fieldLink RX8 30 "MilkTwice$Mind" "shelf" "LMilkTwice$Cupboard;") (List.mem_of_getElem? (i := 2) rfl)
  have kw1 := hts (.fieldLink RX8 21 "MilkTwice$Mind" "house" "LMilkTwice$House;") (List.mem_of_getElem? (i := 1) rfl)
  have hinX8 : ∀ w ∈ u_ws RX8 TX8 5, w ∈ wsX8_costOfTurns := fun w h => List.mem_cons_of_mem _ (List.mem_append_left _ (List.mem_append_left _ (List.mem_append_right _ h)))
  have hinX0 : ∀ w ∈ u_ws RX0 TX0 12, w ∈ wsX8_costOfTurns := fun w h => List.mem_cons_of_mem _ (List.mem_append_right _ h)
  have hinX4 : ∀ w ∈ u_ws RX4 TX4 6, w ∈ wsX8_costOfTurns := fun w h => List.mem_cons_of_mem _ (List.mem_append_left _ (List.mem_append_right _ h))
  refine lv_aload_n hx hb dX8_costOfTurns_0 rfl (lv_at hl 0 rfl) ?_
  refine mt_b1I hf (fun M2 hg1 hf => ?_)
  refine mt_gov (mt_runV (i := 133) (As := []) (rest := []) ⟨hx, hb, hml, hown, hts⟩ hI hH (c_X8_begin l E M u _ hg1) (cwV 0 hts gX8_costOfTurns_X8_begin rfl rfl rfl (by decide +kernel) ⟨Nat.le_of_ble_eq_true rfl, Nat.le_of_ble_eq_true rfl⟩) mt_T133 rfl rfl hl.1 rfl (Nat.le_of_ble_eq_true rfl) dX8_costOfTurns_1 ⟨Nat.zero_le _, Nat.zero_le _⟩) hS (fun H locs hH hS => ?_)
  refine lv_iconst (v := 0) hx hb dX8_costOfTurns_4 (by decide) ?_
  refine lv_istore_n (lv' := [(3, .int (0 : Int32)), (0, .ref (E.2.1 133)), (1, .int a1), (2, .int a2)]) hx hb dX8_costOfTurns_5 rfl hl (by decide) rfl (fun ls hl => ?_)
  refine lv_iconst (v := 0) hx hb dX8_costOfTurns_6 (by decide) ?_
  refine lv_istore (lv' := [(4, .int (0 : Int32)), (3, .int (0 : Int32)), (0, .ref (E.2.1 133)), (1, .int a1), (2, .int a2)]) hx hb dX8_costOfTurns_7 hl (by decide) rfl (fun ls hl => ?_)
  refine mt_lpI3 hf (fun (x3 : Int32) (x4 : Int32) (M5 : mt_M) => ∀ (H : Heap) (locs : List Loc) (ls : Array Slot), mt_H E M5 u H → va_S (mt_A E) s.heap H locs → lv_has ls 6 [(0, .ref (E.2.1 133)), (1, .int a1), (2, .int a2), (3, .int x3), (4, .int x4)] → W p l e (headSpec wsX8_costOfTurns ({ frames := 4, cells := 0, slots := 0, locals := 87 } : Room)).room s mid (([.ref (E.2.1 133), .int a1, .int a2] : List Value).toArray) below meth c0 H locs 0 0 (MQ below (mt_Qi E r M' u) (([.ref (E.2.1 133), .int a1, .int a2] : List Value).toArray) s 0 0 (mt_A E)) (F0 mid 9 ls [])) ?_ _ _ _ hH hS (lv_sub hl [2, 3, 4, 1, 0] rfl)
  intro k6 ih7 x3 x4 M5 hf H locs ls hH hS hl
  refine lv_iload hx hb dX8_costOfTurns_9 (lv_at hl 4 rfl) ?_
  refine lv_iload_n hx hb dX8_costOfTurns_11 rfl (lv_at hl 1 rfl) ?_
  refine lv_icmp_ge (tgt := 75) hx hb dX8_costOfTurns_12 (by decide) (fun c8 => ?_) (fun c8 => ?_)
  · have hf := mt_ifT c8 hf
    refine lv_iload_n hx hb dX8_costOfTurns_75 rfl (lv_at hl 3 rfl) ?_
    refine lv_aload_n hx hb dX8_costOfTurns_76 rfl (lv_at hl 0 rfl) ?_
    refine mt_getr (C := RX8) (T := TX8) (N := 5) hx hb hts hinX8 hown hI hH mt_T133 rfl 1 (by decide) kw0 rfl rfl dX8_costOfTurns_77 ?_
    refine mt_getiN (C := RX0) (T := TX0) (N := 12) hx hb hts hinX0 hown hI hH mt_T137 rfl 9 (by decide) (List.mem_of_getElem? (i := 4) rfl) rfl rfl dX8_costOfTurns_80 ?_
    refine lv_iadd hx hb dX8_costOfTurns_83 ?_
    refine lv_iconst (v := 2) hx hb dX8_costOfTurns_84 (by decide) ?_
    refine lv_aload_n hx hb dX8_costOfTurns_85 rfl (lv_at hl 0 rfl) ?_
    refine mt_getr (C := RX8) (T := TX8) (N := 5) hx hb hts hinX8 hown hI hH mt_T133 rfl 1 (by decide) kw0 rfl rfl dX8_costOfTurns_86 ?_
    refine mt_getiN (C := RX0) (T := TX0) (N := 12) hx hb hts hinX0 hown hI hH mt_T137 rfl 10 (by decide) (List.mem_of_getElem? (i := 5) rfl) rfl rfl dX8_costOfTurns_89 ?_
    refine lv_imul hx hb dX8_costOfTurns_92 ?_
    refine lv_iadd hx hb dX8_costOfTurns_93 ?_
    obtain ⟨i1, i2⟩ := mt_so2 hf
    subst i1
    subst i2
    exact mt_iret hx hb hr hI hH hS hlocks dX8_costOfTurns_94
  · have hf := mt_ifF c8 hf
    refine lv_iload_n hx hb dX8_costOfTurns_15 rfl (lv_at hl 2 rfl) ?_
    refine mt_jn1 hf (fun (v9 : Int32) => ∀ (H : Heap) (locs : List Loc) (ls : Array Slot), mt_H E M5 u H → va_S (mt_A E) s.heap H locs → lv_has ls 6 [(0, .ref (E.2.1 133)), (1, .int a1), (2, .int a2), (3, .int x3), (4, .int x4)] → W p l e (headSpec wsX8_costOfTurns ({ frames := 4, cells := 0, slots := 0, locals := 87 } : Room)).room s mid (([.ref (E.2.1 133), .int a1, .int a2] : List Value).toArray) below meth c0 H locs 0 0 (MQ below (mt_Qi E r M' u) (([.ref (E.2.1 133), .int a1, .int a2] : List Value).toArray) s 0 0 (mt_A E)) (F0 mid 46 ls [.int v9])) ?_ ?_
    · intro v9 hf H locs ls hH hS hl
      refine lv_istore (lv' := [(5, .int v9), (0, .ref (E.2.1 133)), (1, .int a1), (2, .int a2), (3, .int x3), (4, .int x4)]) hx hb dX8_costOfTurns_46 hl (by decide) rfl (fun ls hl => ?_)
      refine lv_iload hx hb dX8_costOfTurns_48 (lv_at hl 0 rfl) ?_
      refine mt_jn2 hf (fun (x12 : Int32) (M13 : mt_M) => ∀ (H : Heap) (locs : List Loc) (ls : Array Slot), mt_H E M13 u H → va_S (mt_A E) s.heap H locs → lv_has ls 6 [(0, .ref (E.2.1 133)), (1, .int a1), (2, .int a2), (3, .int x12), (4, .int x4)] → W p l e (headSpec wsX8_costOfTurns ({ frames := 4, cells := 0, slots := 0, locals := 87 } : Room)).room s mid (([.ref (E.2.1 133), .int a1, .int a2] : List Value).toArray) below meth c0 H locs 0 0 (MQ below (mt_Qi E r M' u) (([.ref (E.2.1 133), .int a1, .int a2] : List Value).toArray) s 0 0 (mt_A E)) (F0 mid 61 ls [])) ?_ ?_
      · intro x12 M13 hf H locs ls hH hS hl
        refine lv_aload_n hx hb dX8_costOfTurns_61 rfl (lv_at hl 0 rfl) ?_
        refine mt_getr (C := RX8) (T := TX8) (N := 5) hx hb hts hinX8 hown hI hH mt_T133 rfl 1 (by decide) kw0 rfl rfl dX8_costOfTurns_62 ?_
        refine mt_b2I hf (fun r17 M18 hg16 hf => ?_)
        refine mt_goi (mt_runV (i := 137) (As := []) (rest := []) ⟨hx, hb, hml, hown, hts⟩ hI hH (c_X0_liveDay l E 137 (by decide) M13 u _ _ hg16) (cwV 0 hts gX8_costOfTurns_X0_liveDay rfl rfl rfl (by decide +kernel) ⟨Nat.le_of_ble_eq_true rfl, Nat.le_of_ble_eq_true rfl⟩) mt_T137 rfl rfl hl.1 rfl (Nat.le_of_ble_eq_true rfl) dX8_costOfTurns_65 ⟨Nat.zero_le _, Nat.zero_le _⟩) hS (fun H locs hH hS => ?_)
        refine lv_pop hx hb dX8_costOfTurns_68 rfl ?_
        refine mt_ltI hf (fun x19 ex19 hf => ?_)
        refine lv_iinc (v := x19) (lv' := [(4, .int x19), (0, .ref (E.2.1 133)), (1, .int a1), (2, .int a2), (3, .int x12)]) hx hb dX8_costOfTurns_69 hl (k := 4) rfl (by rw [ex19]; rfl) (by decide) rfl (fun ls hl => ?_)
        refine lv_goto (tgt := 9) hx hb dX8_costOfTurns_72 (by decide) ?_
        exact ih7 x12 x19 M18 hf _ _ _ hH hS (lv_sub hl [1, 2, 3, 4, 0] rfl)
      · intro j14 hj15 hf
        refine lv_if_eq (tgt := 61) hx hb dX8_costOfTurns_50 (by decide) (fun c20 => ?_) (fun c20 => ?_)
        · have hf := mt_ifT c20 hf
          exact hj15 x3 M5 hf _ _ _ hH hS (lv_sub hl [1, 2, 3, 4, 5] rfl)
        · have hf := mt_ifF c20 hf
          refine mt_ltI hf (fun x21 ex21 hf => ?_)
          refine lv_iinc (v := x21) (lv' := [(3, .int x21), (5, .int v9), (0, .ref (E.2.1 133)), (1, .int a1), (2, .int a2), (4, .int x4)]) hx hb dX8_costOfTurns_53 hl (k := 4) rfl (by rw [ex21]; rfl) (by decide) rfl (fun ls hl => ?_)
          refine lv_aload_n hx hb dX8_costOfTurns_56 rfl (lv_at hl 2 rfl) ?_
          refine lv_iconst (v := 2) hx hb dX8_costOfTurns_57 (by decide) ?_
          refine mt_b1I hf (fun M23 hg22 hf => ?_)
          refine mt_gov (mt_runV (i := 133) (As := [.int (2 : Int32)]) (rest := []) ⟨hx, hb, hml, hown, hts⟩ hI hH (c_X8_buyWhatIsBelow l E (2 : Int32) M5 u _ hg22) (cwV 1 hts gX8_costOfTurns_X8_buyWhatIsBelow rfl rfl rfl (by decide +kernel) ⟨Nat.le_of_ble_eq_true rfl, Nat.le_of_ble_eq_true rfl⟩) mt_T133 rfl rfl hl.1 rfl (Nat.le_of_ble_eq_true rfl) dX8_costOfTurns_58 ⟨Nat.zero_le _, Nat.zero_le _⟩) hS (fun H locs hH hS => ?_)
          exact hj15 x21 M23 hf _ _ _ hH hS (lv_sub hl [2, 3, 4, 0, 5] rfl)
    · intro j10 hj11 hf
      refine lv_if_ne (tgt := 42) hx hb dX8_costOfTurns_16 (by decide) (fun c24 => ?_) (fun c24 => ?_)
      · have hf := mt_ifF c24 hf
        refine lv_aload_n hx hb dX8_costOfTurns_42 rfl (lv_at hl 0 rfl) ?_
        refine mt_b1I hf (fun r26 hg25 hf => ?_)
        refine mt_goi (mt_runV (i := 133) (As := []) (rest := []) ⟨hx, hb, hml, hown, hts⟩ hI hH (c_X8_isSomethingShort l E M5 u _ hg25) (cwV 0 hts gX8_costOfTurns_X8_isSomethingShort rfl rfl rfl (by decide +kernel) ⟨Nat.le_of_ble_eq_true rfl, Nat.le_of_ble_eq_true rfl⟩) mt_T133 rfl rfl hl.1 rfl (Nat.le_of_ble_eq_true rfl) dX8_costOfTurns_43 ⟨Nat.zero_le _, Nat.zero_le _⟩) hS (fun H locs hH hS => ?_)
        exact hj11 r26 hf _ _ _ hH hS (lv_sub hl [0, 1, 2, 3, 4] rfl)
      · have hf := mt_ifT c24 hf
        refine lv_aload_n hx hb dX8_costOfTurns_19 rfl (lv_at hl 0 rfl) ?_
        refine mt_getr (C := RX8) (T := TX8) (N := 5) hx hb hts hinX8 hown hI hH mt_T133 rfl 0 (by decide) kw1 rfl rfl dX8_costOfTurns_20 ?_
        refine mt_getiN (C := RX4) (T := TX4) (N := 6) hx hb hts hinX4 hown hI hH mt_T10 rfl 4 (by decide) (List.mem_of_getElem? (i := 15) rfl) rfl rfl dX8_costOfTurns_23 ?_
        refine lv_iload hx hb dX8_costOfTurns_26 (lv_at hl 4 rfl) ?_
        refine lv_iadd hx hb dX8_costOfTurns_28 ?_
        refine lv_iconst (v := 1) hx hb dX8_costOfTurns_29 (by decide) ?_
        refine lv_iand hx hb dX8_costOfTurns_30 ?_
        refine lv_if_ne (tgt := 38) hx hb dX8_costOfTurns_31 (by decide) (fun c27 => ?_) (fun c27 => ?_)
        · have hf := mt_ifF c27 hf
          refine lv_iconst (v := 0) hx hb dX8_costOfTurns_38 (by decide) ?_
          refine lv_goto (tgt := 46) hx hb dX8_costOfTurns_39 (by decide) ?_
          exact hj11 (0 : Int32) hf _ _ _ hH hS (lv_sub hl [0, 1, 2, 3, 4] rfl)
        · have hf := mt_ifT c27 hf
          refine lv_iconst (v := 1) hx hb dX8_costOfTurns_34 (by decide) ?_
          refine lv_goto (tgt := 46) hx hb dX8_costOfTurns_35 (by decide) ?_
          exact hj11 (1 : Int32) hf _ _ _ hH hS (lv_sub hl [0, 1, 2, 3, 4] rfl)
set_option maxHeartbeats 4000000 in
set_option maxRecDepth 100000 in
theorem c_X8_penceOfMonth (l : Launch) (E : mt_E)  (M : mt_M) (u : mt_U) (r : Int32) (M' : mt_M) (hf : f_X8_penceOfMonth M = some (r, M')) : Met l yX8_penceOfMonth wsX8_penceOfMonth ({ frames := 4, cells := 0, slots := 0, locals := 87 } : Room) (mt_P E [.ref (E.2.1 133)] M u) (mt_Qi E r M' u) 0 0 (mt_A E) := by
  refine Met.ofW (cc := cX8_penceOfMonth) (maxL := 2) (ret := (some .int)) (by decide) rfl ?_
  intro p e s mid args below meth c0 s₁ B hml hv
  obtain ⟨rfl, hI, hH⟩ := hv
  have hx := B.exec
  have hb := B.bytes
  have hr := B.returns
  have hts := atoms_spec (ws := wsX8_penceOfMonth) B.pre
  have hown : s.vm.findClass RX8 = some mid.cls := findClass_of_methodNamed B.named
  have hlocks := B.notSynchronized
  have hS : va_S (mt_A E) s.heap s.heap [] := va_S.rf
  have hl := lv_entry ([.ref (E.2.1 133)]) (n := 2) (Nat.le_of_ble_eq_true rfl)
  rw [lg_entry_eq]
  generalize (lg_sl ([.ref (E.2.1 133)]) ++ List.replicate (2 - (lg_sl ([.ref (E.2.1 133)])).length) Slot.unset).toArray = ls at hl ⊢
  have hl : lv_has ls 2 [(0, .ref (E.2.1 133))] := hl
  unfold f_X8_penceOfMonth at hf
  have kw0 := hts (.fieldLink RX8 30 "MilkTwice$Mind" "shelf" "LMilkTwice$Cupboard;") (List.mem_of_getElem? (i := 1) rfl)
  have hinX8 : ∀ w ∈ u_ws RX8 TX8 5, w ∈ wsX8_penceOfMonth := fun w h => List.mem_cons_of_mem _ (List.mem_append_left _ (List.mem_append_left _ (List.mem_append_right _ h)))
  have hinX0 : ∀ w ∈ u_ws RX0 TX0 12, w ∈ wsX8_penceOfMonth := fun w h => List.mem_cons_of_mem _ (List.mem_append_left _ (List.mem_append_right _ h))
  refine lv_aload_n hx hb dX8_penceOfMonth_0 rfl (lv_at hl 0 rfl) ?_
  refine mt_b1I hf (fun M2 hg1 hf => ?_)
  refine mt_gov (mt_runV (i := 133) (As := []) (rest := []) ⟨hx, hb, hml, hown, hts⟩ hI hH (c_X8_begin l E M u _ hg1) (cwV 0 hts gX8_penceOfMonth_X8_begin rfl rfl rfl (by decide +kernel) ⟨Nat.le_of_ble_eq_true rfl, Nat.le_of_ble_eq_true rfl⟩) mt_T133 rfl rfl hl.1 rfl (Nat.le_of_ble_eq_true rfl) dX8_penceOfMonth_1 ⟨Nat.zero_le _, Nat.zero_le _⟩) hS (fun H locs hH hS => ?_)
  refine lv_iconst (v := 0) hx hb dX8_penceOfMonth_4 (by decide) ?_
  refine lv_istore_n (lv' := [(1, .int (0 : Int32)), (0, .ref (E.2.1 133))]) hx hb dX8_penceOfMonth_5 rfl hl (by decide) rfl (fun ls hl => ?_)
  refine mt_lpI2 hf (fun (x3 : Int32) (M4 : mt_M) => ∀ (H : Heap) (locs : List Loc) (ls : Array Slot), mt_H E M4 u H → va_S (mt_A E) s.heap H locs → lv_has ls 2 [(0, .ref (E.2.1 133)), (1, .int x3)] → W p l e (headSpec wsX8_penceOfMonth ({ frames := 4, cells := 0, slots := 0, locals := 87 } : Room)).room s mid (([.ref (E.2.1 133)] : List Value).toArray) below meth c0 H locs 0 0 (MQ below (mt_Qi E r M' u) (([.ref (E.2.1 133)] : List Value).toArray) s 0 0 (mt_A E)) (F0 mid 6 ls [])) ?_ _ _ _ hH hS (lv_sub hl [1, 0] rfl)
  intro k5 ih6 x3 M4 hf H locs ls hH hS hl
  refine lv_iload_n hx hb dX8_penceOfMonth_6 rfl (lv_at hl 1 rfl) ?_
  refine lv_bipush (v := 30) hx hb dX8_penceOfMonth_7 (by decide) ?_
  refine lv_icmp_ge (tgt := 31) hx hb dX8_penceOfMonth_9 (by decide) (fun c7 => ?_) (fun c7 => ?_)
  · have hf := mt_ifT c7 hf
    refine lv_aload_n hx hb dX8_penceOfMonth_31 rfl (lv_at hl 0 rfl) ?_
    refine mt_getr (C := RX8) (T := TX8) (N := 5) hx hb hts hinX8 hown hI hH mt_T133 rfl 1 (by decide) kw0 rfl rfl dX8_penceOfMonth_32 ?_
    refine mt_getiN (C := RX0) (T := TX0) (N := 12) hx hb hts hinX0 hown hI hH mt_T137 rfl 9 (by decide) (List.mem_of_getElem? (i := 4) rfl) rfl rfl dX8_penceOfMonth_35 ?_
    obtain ⟨i1, i2⟩ := mt_so2 hf
    subst i1
    subst i2
    exact mt_iret hx hb hr hI hH hS hlocks dX8_penceOfMonth_38
  · have hf := mt_ifF c7 hf
    refine lv_aload_n hx hb dX8_penceOfMonth_12 rfl (lv_at hl 0 rfl) ?_
    refine lv_iconst (v := 1) hx hb dX8_penceOfMonth_13 (by decide) ?_
    refine mt_b1I hf (fun M9 hg8 hf => ?_)
    refine mt_gov (mt_runV (i := 133) (As := [.int (1 : Int32)]) (rest := []) ⟨hx, hb, hml, hown, hts⟩ hI hH (c_X8_buyWhatIsBelow l E (1 : Int32) M4 u _ hg8) (cwV 1 hts gX8_penceOfMonth_X8_buyWhatIsBelow rfl rfl rfl (by decide +kernel) ⟨Nat.le_of_ble_eq_true rfl, Nat.le_of_ble_eq_true rfl⟩) mt_T133 rfl rfl hl.1 rfl (Nat.le_of_ble_eq_true rfl) dX8_penceOfMonth_14 ⟨Nat.zero_le _, Nat.zero_le _⟩) hS (fun H locs hH hS => ?_)
    refine lv_aload_n hx hb dX8_penceOfMonth_17 rfl (lv_at hl 0 rfl) ?_
    refine mt_getr (C := RX8) (T := TX8) (N := 5) hx hb hts hinX8 hown hI hH mt_T133 rfl 1 (by decide) kw0 rfl rfl dX8_penceOfMonth_18 ?_
    refine mt_b2I hf (fun r11 M12 hg10 hf => ?_)
    refine mt_goi (mt_runV (i := 137) (As := []) (rest := []) ⟨hx, hb, hml, hown, hts⟩ hI hH (c_X0_liveDay l E 137 (by decide) M9 u _ _ hg10) (cwV 0 hts gX8_penceOfMonth_X0_liveDay rfl rfl rfl (by decide +kernel) ⟨Nat.le_of_ble_eq_true rfl, Nat.le_of_ble_eq_true rfl⟩) mt_T137 rfl rfl hl.1 rfl (Nat.le_of_ble_eq_true rfl) dX8_penceOfMonth_21 ⟨Nat.zero_le _, Nat.zero_le _⟩) hS (fun H locs hH hS => ?_)
    refine lv_pop hx hb dX8_penceOfMonth_24 rfl ?_
    refine mt_ltI hf (fun x13 ex13 hf => ?_)
    refine lv_iinc (v := x13) (lv' := [(1, .int x13), (0, .ref (E.2.1 133))]) hx hb dX8_penceOfMonth_25 hl (k := 1) rfl (by rw [ex13]; rfl) (by decide) rfl (fun ls hl => ?_)
    refine lv_goto (tgt := 6) hx hb dX8_penceOfMonth_28 (by decide) ?_
    exact ih6 x13 M12 hf _ _ _ hH hS (lv_sub hl [1, 0] rfl)

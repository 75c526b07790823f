/-! THE WALKS, laid by program: each method returns what its pure function says, and leaves the memory so -/
set_option maxHeartbeats 4000000 in
set_option maxRecDepth 100000 in
theorem c_X12_noWaste (l : Launch) (E : mt_E) (a1 : Int32) (a2 : Int32) (M : mt_M) (u : mt_U) (r : Int32) (M' : mt_M) (hf : f_X12_noWaste a1 a2 M = some (r, M')) : Met l yX12_noWaste wsX12_noWaste ({ frames := 4, cells := 0, slots := 0, locals := 89 } : Room) (mt_P E [.ref (E.2.1 147), .int a1, .int a2] M u) (mt_Qi E r M' u) 0 0 (mt_A E) := by
  refine Met.ofW (cc := cX12_noWaste) (maxL := 6) (ret := (some .int)) (by decide) rfl ?_
  intro p e s mid args below meth c0 s₁ B hml hv
  obtain ⟨rfl, hI, hH⟩ := hv
  have hx := B.exec
  have hb := B.bytes
  have hr := B.returns
  have hts := atoms_spec (ws := wsX12_noWaste) B.pre
  have hown : s.vm.findClass RX12 = some mid.cls := findClass_of_methodNamed B.named
  have hlocks := B.notSynchronized
  have hS : va_S (mt_A E) s.heap s.heap [] := va_S.rf
  have hl := lv_entry ([.ref (E.2.1 147), .int a1, .int a2]) (n := 6) (Nat.le_of_ble_eq_true rfl)
  rw [lg_entry_eq]
  generalize (lg_sl ([.ref (E.2.1 147), .int a1, .int a2]) ++ List.replicate (6 - (lg_sl ([.ref (E.2.1 147), .int a1, .int a2])).length) Slot.unset).toArray = ls at hl ⊢
  have hl : lv_has ls 6 [(0, .ref (E.2.1 147)), (1, .int a1), (2, .int a2)] := hl
  unfold f_X12_noWaste at hf
  refine lv_aload_n hx hb dX12_noWaste_0 rfl (lv_at hl 0 rfl) ?_
  refine lv_iload_n hx hb dX12_noWaste_1 rfl (lv_at hl 1 rfl) ?_
  refine mt_b1I hf (fun r2 hg1 hf => ?_)
  refine mt_goi (mt_runV (i := 147) (As := [.int a1]) (rest := []) ⟨hx, hb, hml, hown, hts⟩ hI hH (c_X12_isThing l E a1 M u _ hg1) (cwV 1 hts gX12_noWaste_X12_isThing rfl rfl rfl (by decide +kernel) ⟨Nat.le_of_ble_eq_true rfl, Nat.le_of_ble_eq_true rfl⟩) mt_T147 rfl rfl hl.1 rfl (Nat.le_of_ble_eq_true rfl) dX12_noWaste_2 ⟨Nat.zero_le _, Nat.zero_le _⟩) hS (fun H locs hH hS => ?_)
  refine mt_jn1 hf (fun (v3 : Int32) => ∀ (H : Heap) (locs : List Loc) (ls : Array Slot), mt_H E M u H → va_S (mt_A E) s.heap H locs → lv_has ls 6 [(0, .ref (E.2.1 147)), (1, .int a1), (2, .int a2)] → W p l e (headSpec wsX12_noWaste ({ frames := 4, cells := 0, slots := 0, locals := 89 } : Room)).room s mid (([.ref (E.2.1 147), .int a1, .int a2] : List Value).toArray) below meth c0 H locs 0 0 (MQ below (mt_Qi E r M' u) (([.ref (E.2.1 147), .int a1, .int a2] : List Value).toArray) s 0 0 (mt_A E)) (F0 mid 16 ls [.int v3])) ?_ ?_
  · intro v3 hf H locs ls hH hS hl
    refine lv_istore_n (lv' := [(3, .int v3), (0, .ref (E.2.1 147)), (1, .int a1), (2, .int a2)]) hx hb dX12_noWaste_16 rfl hl (by decide) rfl (fun ls hl => ?_)
    refine lv_iload_n hx hb dX12_noWaste_17 rfl (lv_at hl 0 rfl) ?_
    refine lv_if_eq (tgt := 27) hx hb dX12_noWaste_18 (by decide) (fun c6 => ?_) (fun c6 => ?_)
    · have hf := mt_ifT c6 hf
      refine lv_bipush (v := (-9)) hx hb dX12_noWaste_27 (by decide) ?_
      refine lv_istore (lv' := [(4, .int (-9 : Int32)), (3, .int v3), (0, .ref (E.2.1 147)), (1, .int a1), (2, .int a2)]) hx hb dX12_noWaste_29 hl (by decide) rfl (fun ls hl => ?_)
      refine lv_iconst (v := 0) hx hb dX12_noWaste_31 (by decide) ?_
      refine lv_istore (lv' := [(5, .int (0 : Int32)), (4, .int (-9 : Int32)), (3, .int v3), (0, .ref (E.2.1 147)), (1, .int a1), (2, .int a2)]) hx hb dX12_noWaste_32 hl (by decide) rfl (fun ls hl => ?_)
      refine mt_lpI3 hf (fun (x7 : Int32) (x8 : Int32) (M9 : mt_M) => ∀ (H : Heap) (locs : List Loc) (ls : Array Slot), mt_H E M9 u H → va_S (mt_A E) s.heap H locs → lv_has ls 6 [(0, .ref (E.2.1 147)), (1, .int a1), (2, .int a2), (4, .int x7), (5, .int x8)] → W p l e (headSpec wsX12_noWaste ({ frames := 4, cells := 0, slots := 0, locals := 89 } : Room)).room s mid (([.ref (E.2.1 147), .int a1, .int a2] : List Value).toArray) below meth c0 H locs 0 0 (MQ below (mt_Qi E r M' u) (([.ref (E.2.1 147), .int a1, .int a2] : List Value).toArray) s 0 0 (mt_A E)) (F0 mid 34 ls [])) ?_ _ _ _ hH hS (lv_sub hl [3, 4, 5, 1, 0] rfl)
      intro k10 ih11 x7 x8 M9 hf H locs ls hH hS hl
      refine lv_iload hx hb dX12_noWaste_34 (lv_at hl 4 rfl) ?_
      refine lv_bipush (v := 20) hx hb dX12_noWaste_36 (by decide) ?_
      refine lv_icmp_gt (tgt := 77) hx hb dX12_noWaste_38 (by decide) (fun c12 => ?_) (fun c12 => ?_)
      · have hf := mt_ifT c12 hf
        refine lv_iload hx hb dX12_noWaste_77 (lv_at hl 3 rfl) ?_
        obtain ⟨i1, i2⟩ := mt_so2 hf
        subst i1
        subst i2
        exact mt_iret hx hb hr hI hH hS hlocks dX12_noWaste_79
      · have hf := mt_ifF c12 hf
        refine lv_aload_n hx hb dX12_noWaste_41 rfl (lv_at hl 0 rfl) ?_
        refine lv_iload_n hx hb dX12_noWaste_42 rfl (lv_at hl 1 rfl) ?_
        refine lv_iconst (v := 0) hx hb dX12_noWaste_43 (by decide) ?_
        refine lv_iload_n hx hb dX12_noWaste_44 rfl (lv_at hl 2 rfl) ?_
        refine mt_b2I hf (fun r14 M15 hg13 hf => ?_)
        refine mt_goi (mt_runV (i := 147) (As := [.int a1, .int (0 : Int32), .int a2]) (rest := []) ⟨hx, hb, hml, hown, hts⟩ hI hH (c_X12_isWasted l E a1 (0 : Int32) a2 M9 u _ _ hg13) (cwV 3 hts gX12_noWaste_X12_isWasted rfl rfl rfl (by decide +kernel) ⟨Nat.le_of_ble_eq_true rfl, Nat.le_of_ble_eq_true rfl⟩) mt_T147 rfl rfl hl.1 rfl (Nat.le_of_ble_eq_true rfl) dX12_noWaste_45 ⟨Nat.zero_le _, Nat.zero_le _⟩) hS (fun H locs hH hS => ?_)
        refine lv_if_ne (tgt := 77) hx hb dX12_noWaste_48 (by decide) (fun c16 => ?_) (fun c16 => ?_)
        · have hf := mt_ifF c16 hf
          refine lv_iload hx hb dX12_noWaste_77 (lv_at hl 3 rfl) ?_
          obtain ⟨i1, i2⟩ := mt_so2 hf
          subst i1
          subst i2
          exact mt_iret hx hb hr hI hH hS hlocks dX12_noWaste_79
        · have hf := mt_ifT c16 hf
          refine lv_aload_n hx hb dX12_noWaste_51 rfl (lv_at hl 0 rfl) ?_
          refine lv_iload_n hx hb dX12_noWaste_52 rfl (lv_at hl 1 rfl) ?_
          refine lv_iload hx hb dX12_noWaste_53 (lv_at hl 4 rfl) ?_
          refine lv_iload_n hx hb dX12_noWaste_55 rfl (lv_at hl 2 rfl) ?_
          refine mt_b2I hf (fun r18 M19 hg17 hf => ?_)
          refine mt_goi (mt_runV (i := 147) (As := [.int a1, .int x8, .int a2]) (rest := []) ⟨hx, hb, hml, hown, hts⟩ hI hH (c_X12_isWasted l E a1 x8 a2 M15 u _ _ hg17) (cwV 3 hts gX12_noWaste_X12_isWasted rfl rfl rfl (by decide +kernel) ⟨Nat.le_of_ble_eq_true rfl, Nat.le_of_ble_eq_true rfl⟩) mt_T147 rfl rfl hl.1 rfl (Nat.le_of_ble_eq_true rfl) dX12_noWaste_56 ⟨Nat.zero_le _, Nat.zero_le _⟩) hS (fun H locs hH hS => ?_)
          refine mt_jn1 hf (fun (v20 : Int32) => ∀ (H : Heap) (locs : List Loc) (ls : Array Slot), mt_H E M19 u H → va_S (mt_A E) s.heap H locs → lv_has ls 6 [(0, .ref (E.2.1 147)), (1, .int a1), (2, .int a2), (5, .int x8)] → W p l e (headSpec wsX12_noWaste ({ frames := 4, cells := 0, slots := 0, locals := 89 } : Room)).room s mid (([.ref (E.2.1 147), .int a1, .int a2] : List Value).toArray) below meth c0 H locs 0 0 (MQ below (mt_Qi E r M' u) (([.ref (E.2.1 147), .int a1, .int a2] : List Value).toArray) s 0 0 (mt_A E)) (F0 mid 69 ls [.int v20])) ?_ ?_
          · intro v20 hf H locs ls hH hS hl
            refine lv_istore (lv' := [(4, .int v20), (0, .ref (E.2.1 147)), (1, .int a1), (2, .int a2), (5, .int x8)]) hx hb dX12_noWaste_69 hl (by decide) rfl (fun ls hl => ?_)
            refine mt_ltI hf (fun x23 ex23 hf => ?_)
            refine lv_iinc (v := x23) (lv' := [(5, .int x23), (4, .int v20), (0, .ref (E.2.1 147)), (1, .int a1), (2, .int a2)]) hx hb dX12_noWaste_71 hl (k := 4) rfl (by rw [ex23]; rfl) (by decide) rfl (fun ls hl => ?_)
            refine lv_goto (tgt := 34) hx hb dX12_noWaste_74 (by decide) ?_
            exact ih11 v20 x23 M19 hf _ _ _ hH hS (lv_sub hl [2, 3, 4, 1, 0] rfl)
          · intro j21 hj22 hf
            refine lv_if_eq (tgt := 67) hx hb dX12_noWaste_59 (by decide) (fun c24 => ?_) (fun c24 => ?_)
            · have hf := mt_ifT c24 hf
              refine lv_iload hx hb dX12_noWaste_67 (lv_at hl 4 rfl) ?_
              exact hj22 x8 hf _ _ _ hH hS (lv_sub hl [0, 1, 2, 4] rfl)
            · have hf := mt_ifF c24 hf
              refine lv_iload hx hb dX12_noWaste_62 (lv_at hl 3 rfl) ?_
              refine lv_goto (tgt := 69) hx hb dX12_noWaste_64 (by decide) ?_
              exact hj22 x7 hf _ _ _ hH hS (lv_sub hl [0, 1, 2, 4] rfl)
    · have hf := mt_ifF c6 hf
      refine lv_aload_n hx hb dX12_noWaste_21 rfl (lv_at hl 1 rfl) ?_
      refine lv_iload_n hx hb dX12_noWaste_22 rfl (lv_at hl 0 rfl) ?_
      refine mt_b2I hf (fun r26 M27 hg25 hf => ?_)
      refine mt_goi (mt_runV (i := 147) (As := [.int v3]) (rest := []) ⟨hx, hb, hml, hown, hts⟩ hI hH (c_X12_no l E v3 M u _ _ hg25) (cwV 1 hts gX12_noWaste_X12_no rfl rfl rfl (by decide +kernel) ⟨Nat.le_of_ble_eq_true rfl, Nat.le_of_ble_eq_true rfl⟩) mt_T147 rfl rfl hl.1 rfl (Nat.le_of_ble_eq_true rfl) dX12_noWaste_23 ⟨Nat.zero_le _, Nat.zero_le _⟩) hS (fun H locs hH hS => ?_)
      obtain ⟨i1, i2⟩ := mt_so2 hf
      subst i1
      subst i2
      exact mt_iret hx hb hr hI hH hS hlocks dX12_noWaste_26
  · intro j4 hj5 hf
    refine lv_if_ne (tgt := 12) hx hb dX12_noWaste_5 (by decide) (fun c28 => ?_) (fun c28 => ?_)
    · have hf := mt_ifF c28 hf
      refine lv_iload_n hx hb dX12_noWaste_12 rfl (lv_at hl 2 rfl) ?_
      refine mt_b1I hf (fun r30 hg29 hf => ?_)
      refine mt_goi (mt_runS (As := [.int a2]) (rest := []) ⟨hx, hb, hml, hown, hts⟩ hI hH (c_X12_notMonth l E a2 M u _ hg29) (va_cwS 1 hts gX12_noWaste_X12_notMonth rfl rfl rfl (by decide +kernel) ⟨Nat.le_of_ble_eq_true rfl, Nat.le_of_ble_eq_true rfl⟩) rfl hl.1 rfl (Nat.le_of_ble_eq_true rfl) dX12_noWaste_13 ⟨Nat.zero_le _, Nat.zero_le _⟩) hS (fun H locs hH hS => ?_)
      exact hj5 r30 hf _ _ _ hH hS (lv_sub hl [0, 1, 2] rfl)
    · have hf := mt_ifT c28 hf
      refine lv_iconst (v := (-1)) hx hb dX12_noWaste_8 (by decide) ?_
      refine lv_goto (tgt := 16) hx hb dX12_noWaste_9 (by decide) ?_
      exact hj5 (-1 : Int32) hf _ _ _ hH hS (lv_sub hl [0, 1, 2] rfl)
set_option maxHeartbeats 4000000 in
set_option maxRecDepth 100000 in
theorem c_X12_cheapestOf (l : Launch) (E : mt_E) (a1 : Int32) (a2 : Int32) (M : mt_M) (u : mt_U) (r : Int32) (M' : mt_M) (hf : f_X12_cheapestOf a1 a2 M = some (r, M')) : Met l yX12_cheapestOf wsX12_cheapestOf ({ frames := 5, cells := 0, slots := 0, locals := 112 } : Room) (mt_P E [.ref (E.2.1 147), .int a1, .int a2] M u) (mt_Qi E r M' u) 0 0 (mt_A E) := by
  refine Met.ofW (cc := cX12_cheapestOf) (maxL := 5) (ret := (some .int)) (by decide) rfl ?_
  intro p e s mid args below meth c0 s₁ B hml hv
  obtain ⟨rfl, hI, hH⟩ := hv
  have hx := B.exec
  have hb := B.bytes
  have hr := B.returns
  have hts := atoms_spec (ws := wsX12_cheapestOf) B.pre
  have hown : s.vm.findClass RX12 = some mid.cls := findClass_of_methodNamed B.named
  have hlocks := B.notSynchronized
  have hS : va_S (mt_A E) s.heap s.heap [] := va_S.rf
  have hl := lv_entry ([.ref (E.2.1 147), .int a1, .int a2]) (n := 5) (Nat.le_of_ble_eq_true rfl)
  rw [lg_entry_eq]
  generalize (lg_sl ([.ref (E.2.1 147), .int a1, .int a2]) ++ List.replicate (5 - (lg_sl ([.ref (E.2.1 147), .int a1, .int a2])).length) Slot.unset).toArray = ls at hl ⊢
  have hl : lv_has ls 5 [(0, .ref (E.2.1 147)), (1, .int a1), (2, .int a2)] := hl
  unfold f_X12_cheapestOf at hf
  have kw0 := hts (.fieldLink RX12 59 "MilkTwiceModel" "things" "I") (List.mem_of_getElem? (i := 1) rfl)
  have hinX12 : ∀ w ∈ u_ws RX12 TX12 29, w ∈ wsX12_cheapestOf := fun w h => List.mem_cons_of_mem _ (List.mem_append_right _ h)
  refine lv_bipush (v := (-9)) hx hb dX12_cheapestOf_0 (by decide) ?_
  refine lv_istore_n (lv' := [(3, .int (-9 : Int32)), (0, .ref (E.2.1 147)), (1, .int a1), (2, .int a2)]) hx hb dX12_cheapestOf_2 rfl hl (by decide) rfl (fun ls hl => ?_)
  refine lv_iconst (v := 0) hx hb dX12_cheapestOf_3 (by decide) ?_
  refine lv_istore (lv' := [(4, .int (0 : Int32)), (3, .int (-9 : Int32)), (0, .ref (E.2.1 147)), (1, .int a1), (2, .int a2)]) hx hb dX12_cheapestOf_4 hl (by decide) rfl (fun ls hl => ?_)
  refine mt_lpI3 hf (fun (x1 : Int32) (x2 : Int32) (M3 : mt_M) => ∀ (H : Heap) (locs : List Loc) (ls : Array Slot), mt_H E M3 u H → va_S (mt_A E) s.heap H locs → lv_has ls 5 [(0, .ref (E.2.1 147)), (1, .int a1), (2, .int a2), (3, .int x1), (4, .int x2)] → W p l e (headSpec wsX12_cheapestOf ({ frames := 5, cells := 0, slots := 0, locals := 112 } : Room)).room s mid (([.ref (E.2.1 147), .int a1, .int a2] : List Value).toArray) below meth c0 H locs 0 0 (MQ below (mt_Qi E r M' u) (([.ref (E.2.1 147), .int a1, .int a2] : List Value).toArray) s 0 0 (mt_A E)) (F0 mid 6 ls [])) ?_ _ _ _ hH hS (lv_sub hl [2, 3, 4, 1, 0] rfl)
  intro k4 ih5 x1 x2 M3 hf H locs ls hH hS hl
  refine lv_iload hx hb dX12_cheapestOf_6 (lv_at hl 4 rfl) ?_
  refine lv_aload_n hx hb dX12_cheapestOf_8 rfl (lv_at hl 0 rfl) ?_
  refine mt_geti (C := RX12) (T := TX12) (N := 29) hx hb hts hinX12 hown hI hH mt_T147 rfl 8 (by decide) kw0 rfl rfl dX12_cheapestOf_9 ?_
  refine lv_icmp_ge (tgt := 81) hx hb dX12_cheapestOf_12 (by decide) (fun c6 => ?_) (fun c6 => ?_)
  · have hf := mt_ifT c6 hf
    refine lv_iload_n hx hb dX12_cheapestOf_81 rfl (lv_at hl 3 rfl) ?_
    obtain ⟨i1, i2⟩ := mt_so2 hf
    subst i1
    subst i2
    exact mt_iret hx hb hr hI hH hS hlocks dX12_cheapestOf_82
  · have hf := mt_ifF c6 hf
    refine lv_iload_n hx hb dX12_cheapestOf_15 rfl (lv_at hl 1 rfl) ?_
    refine lv_iload hx hb dX12_cheapestOf_16 (lv_at hl 4 rfl) ?_
    refine mt_b1I hf (fun r8 hg7 hf => ?_)
    refine mt_goi (mt_runS (As := [.int a1, .int x2]) (rest := []) ⟨hx, hb, hml, hown, hts⟩ hI hH (c_X12_has l E a1 x2 M3 u _ hg7) (va_cwS 2 hts gX12_cheapestOf_X12_has rfl rfl rfl (by decide +kernel) ⟨Nat.le_of_ble_eq_true rfl, Nat.le_of_ble_eq_true rfl⟩) rfl hl.1 rfl (Nat.le_of_ble_eq_true rfl) dX12_cheapestOf_18 ⟨Nat.zero_le _, Nat.zero_le _⟩) hS (fun H locs hH hS => ?_)
    refine mt_jn2 hf (fun (x9 : Int32) (M10 : mt_M) => ∀ (H : Heap) (locs : List Loc) (ls : Array Slot), mt_H E M10 u H → va_S (mt_A E) s.heap H locs → lv_has ls 5 [(0, .ref (E.2.1 147)), (1, .int a1), (2, .int a2), (3, .int x9), (4, .int x2)] → W p l e (headSpec wsX12_cheapestOf ({ frames := 5, cells := 0, slots := 0, locals := 112 } : Room)).room s mid (([.ref (E.2.1 147), .int a1, .int a2] : List Value).toArray) below meth c0 H locs 0 0 (MQ below (mt_Qi E r M' u) (([.ref (E.2.1 147), .int a1, .int a2] : List Value).toArray) s 0 0 (mt_A E)) (F0 mid 75 ls [])) ?_ ?_
    · intro x9 M10 hf H locs ls hH hS hl
      refine mt_ltI hf (fun x13 ex13 hf => ?_)
      refine lv_iinc (v := x13) (lv' := [(4, .int x13), (0, .ref (E.2.1 147)), (1, .int a1), (2, .int a2), (3, .int x9)]) hx hb dX12_cheapestOf_75 hl (k := 4) rfl (by rw [ex13]; rfl) (by decide) rfl (fun ls hl => ?_)
      refine lv_goto (tgt := 6) hx hb dX12_cheapestOf_78 (by decide) ?_
      exact ih5 x9 x13 M10 hf _ _ _ hH hS (lv_sub hl [1, 2, 3, 4, 0] rfl)
    · intro j11 hj12 hf
      refine lv_if_eq (tgt := 75) hx hb dX12_cheapestOf_21 (by decide) (fun c14 => ?_) (fun c14 => ?_)
      · have hf := mt_ifT c14 hf
        exact hj12 x1 M3 hf _ _ _ hH hS (lv_sub hl [0, 1, 2, 3, 4] rfl)
      · have hf := mt_ifF c14 hf
        refine lv_aload_n hx hb dX12_cheapestOf_24 rfl (lv_at hl 0 rfl) ?_
        refine lv_iload hx hb dX12_cheapestOf_25 (lv_at hl 4 rfl) ?_
        refine lv_iload_n hx hb dX12_cheapestOf_27 rfl (lv_at hl 2 rfl) ?_
        refine mt_b2I hf (fun r16 M17 hg15 hf => ?_)
        refine mt_goi (mt_runV (i := 147) (As := [.int x2, .int a2]) (rest := []) ⟨hx, hb, hml, hown, hts⟩ hI hH (c_X12_packsFor l E x2 a2 M3 u _ _ hg15) (cwV 2 hts gX12_cheapestOf_X12_packsFor rfl rfl rfl (by decide +kernel) ⟨Nat.le_of_ble_eq_true rfl, Nat.le_of_ble_eq_true rfl⟩) mt_T147 rfl rfl hl.1 rfl (Nat.le_of_ble_eq_true rfl) dX12_cheapestOf_28 ⟨Nat.zero_le _, Nat.zero_le _⟩) hS (fun H locs hH hS => ?_)
        refine lv_bipush (v := 99) hx hb dX12_cheapestOf_31 (by decide) ?_
        refine lv_icmp_ne (tgt := 39) hx hb dX12_cheapestOf_33 (by decide) (fun c18 => ?_) (fun c18 => ?_)
        · have hf := mt_ifF c18 hf
          refine lv_iload_n hx hb dX12_cheapestOf_39 rfl (lv_at hl 3 rfl) ?_
          refine mt_jn1 hf (fun (M19 : mt_M) => ∀ (H : Heap) (locs : List Loc) (ls : Array Slot), mt_H E M19 u H → va_S (mt_A E) s.heap H locs → lv_has ls 5 [(0, .ref (E.2.1 147)), (1, .int a1), (2, .int a2), (4, .int x2)] → W p l e (headSpec wsX12_cheapestOf ({ frames := 5, cells := 0, slots := 0, locals := 112 } : Room)).room s mid (([.ref (E.2.1 147), .int a1, .int a2] : List Value).toArray) below meth c0 H locs 0 0 (MQ below (mt_Qi E r M' u) (([.ref (E.2.1 147), .int a1, .int a2] : List Value).toArray) s 0 0 (mt_A E)) (F0 mid 72 ls [])) ?_ ?_
          · intro M19 hf H locs ls hH hS hl
            refine lv_iload hx hb dX12_cheapestOf_72 (lv_at hl 3 rfl) ?_
            refine lv_istore_n (lv' := [(3, .int x2), (0, .ref (E.2.1 147)), (1, .int a1), (2, .int a2), (4, .int x2)]) hx hb dX12_cheapestOf_74 rfl hl (by decide) rfl (fun ls hl => ?_)
            exact hj12 x2 M19 hf _ _ _ hH hS (lv_sub hl [1, 2, 3, 0, 4] rfl)
          · intro j20 hj21 hf
            refine lv_if_lt (tgt := 72) hx hb dX12_cheapestOf_40 (by decide) (fun c22 => ?_) (fun c22 => ?_)
            · have hf := mt_ifT c22 hf
              exact hj21 M17 hf _ _ _ hH hS (lv_sub hl [0, 1, 2, 4] rfl)
            · have hf := mt_ifF c22 hf
              refine lv_aload_n hx hb dX12_cheapestOf_43 rfl (lv_at hl 0 rfl) ?_
              refine lv_iload hx hb dX12_cheapestOf_44 (lv_at hl 4 rfl) ?_
              refine lv_iload_n hx hb dX12_cheapestOf_46 rfl (lv_at hl 2 rfl) ?_
              refine mt_b2I hf (fun r24 M25 hg23 hf => ?_)
              refine mt_goi (mt_runV (i := 147) (As := [.int x2, .int a2]) (rest := []) ⟨hx, hb, hml, hown, hts⟩ hI hH (c_X12_packsFor l E x2 a2 M17 u _ _ hg23) (cwV 2 hts gX12_cheapestOf_X12_packsFor rfl rfl rfl (by decide +kernel) ⟨Nat.le_of_ble_eq_true rfl, Nat.le_of_ble_eq_true rfl⟩) mt_T147 rfl rfl hl.1 rfl (Nat.le_of_ble_eq_true rfl) dX12_cheapestOf_47 ⟨Nat.zero_le _, Nat.zero_le _⟩) hS (fun H locs hH hS => ?_)
              refine lv_aload_n hx hb dX12_cheapestOf_50 rfl (lv_at hl 0 rfl) ?_
              refine lv_iload hx hb dX12_cheapestOf_51 (lv_at hl 4 rfl) ?_
              refine mt_b1I hf (fun r27 hg26 hf => ?_)
              refine mt_goi (mt_runV (i := 147) (As := [.int x2]) (rest := [.int r24]) ⟨hx, hb, hml, hown, hts⟩ hI hH (c_X12_priceOf l E x2 M25 u _ hg26) (cwV 1 hts gX12_cheapestOf_X12_priceOf rfl rfl rfl (by decide +kernel) ⟨Nat.le_of_ble_eq_true rfl, Nat.le_of_ble_eq_true rfl⟩) mt_T147 rfl rfl hl.1 rfl (Nat.le_of_ble_eq_true rfl) dX12_cheapestOf_53 ⟨Nat.zero_le _, Nat.zero_le _⟩) hS (fun H locs hH hS => ?_)
              refine lv_imul hx hb dX12_cheapestOf_56 ?_
              refine lv_aload_n hx hb dX12_cheapestOf_57 rfl (lv_at hl 0 rfl) ?_
              refine lv_iload_n hx hb dX12_cheapestOf_58 rfl (lv_at hl 3 rfl) ?_
              refine lv_iload_n hx hb dX12_cheapestOf_59 rfl (lv_at hl 2 rfl) ?_
              refine mt_b2I hf (fun r29 M30 hg28 hf => ?_)
              refine mt_goi (mt_runV (i := 147) (As := [.int x1, .int a2]) (rest := [.int (r24 * r27)]) ⟨hx, hb, hml, hown, hts⟩ hI hH (c_X12_packsFor l E x1 a2 M25 u _ _ hg28) (cwV 2 hts gX12_cheapestOf_X12_packsFor rfl rfl rfl (by decide +kernel) ⟨Nat.le_of_ble_eq_true rfl, Nat.le_of_ble_eq_true rfl⟩) mt_T147 rfl rfl hl.1 rfl (Nat.le_of_ble_eq_true rfl) dX12_cheapestOf_60 ⟨Nat.zero_le _, Nat.zero_le _⟩) hS (fun H locs hH hS => ?_)
              refine lv_aload_n hx hb dX12_cheapestOf_63 rfl (lv_at hl 0 rfl) ?_
              refine lv_iload_n hx hb dX12_cheapestOf_64 rfl (lv_at hl 3 rfl) ?_
              refine mt_b1I hf (fun r32 hg31 hf => ?_)
              refine mt_goi (mt_runV (i := 147) (As := [.int x1]) (rest := [.int r29, .int (r24 * r27)]) ⟨hx, hb, hml, hown, hts⟩ hI hH (c_X12_priceOf l E x1 M30 u _ hg31) (cwV 1 hts gX12_cheapestOf_X12_priceOf rfl rfl rfl (by decide +kernel) ⟨Nat.le_of_ble_eq_true rfl, Nat.le_of_ble_eq_true rfl⟩) mt_T147 rfl rfl hl.1 rfl (Nat.le_of_ble_eq_true rfl) dX12_cheapestOf_65 ⟨Nat.zero_le _, Nat.zero_le _⟩) hS (fun H locs hH hS => ?_)
              refine lv_imul hx hb dX12_cheapestOf_68 ?_
              refine lv_icmp_ge (tgt := 75) hx hb dX12_cheapestOf_69 (by decide) (fun c33 => ?_) (fun c33 => ?_)
              · have hf := mt_ifT c33 hf
                exact hj12 x1 M30 hf _ _ _ hH hS (lv_sub hl [0, 1, 2, 3, 4] rfl)
              · have hf := mt_ifF c33 hf
                exact hj21 M30 hf _ _ _ hH hS (lv_sub hl [0, 1, 2, 4] rfl)
        · have hf := mt_ifT c18 hf
          refine lv_goto (tgt := 75) hx hb dX12_cheapestOf_36 (by decide) ?_
          exact hj12 x1 M17 hf _ _ _ hH hS (lv_sub hl [0, 1, 2, 3, 4] rfl)
set_option maxHeartbeats 4000000 in
set_option maxRecDepth 100000 in
theorem c_X12_cheapest (l : Launch) (E : mt_E) (a1 : Int32) (a2 : Int32) (M : mt_M) (u : mt_U) (r : Int32) (M' : mt_M) (hf : f_X12_cheapest a1 a2 M = some (r, M')) : Met l yX12_cheapest wsX12_cheapest ({ frames := 6, cells := 0, slots := 0, locals := 136 } : Room) (mt_P E [.ref (E.2.1 147), .int a1, .int a2] M u) (mt_Qi E r M' u) 0 0 (mt_A E) := by
  refine Met.ofW (cc := cX12_cheapest) (maxL := 8) (ret := (some .int)) (by decide) rfl ?_
  intro p e s mid args below meth c0 s₁ B hml hv
  obtain ⟨rfl, hI, hH⟩ := hv
  have hx := B.exec
  have hb := B.bytes
  have hr := B.returns
  have hts := atoms_spec (ws := wsX12_cheapest) B.pre
  have hown : s.vm.findClass RX12 = some mid.cls := findClass_of_methodNamed B.named
  have hlocks := B.notSynchronized
  have hS : va_S (mt_A E) s.heap s.heap [] := va_S.rf
  have hl := lv_entry ([.ref (E.2.1 147), .int a1, .int a2]) (n := 8) (Nat.le_of_ble_eq_true rfl)
  rw [lg_entry_eq]
  generalize (lg_sl ([.ref (E.2.1 147), .int a1, .int a2]) ++ List.replicate (8 - (lg_sl ([.ref (E.2.1 147), .int a1, .int a2])).length) Slot.unset).toArray = ls at hl ⊢
  have hl : lv_has ls 8 [(0, .ref (E.2.1 147)), (1, .int a1), (2, .int a2)] := hl
  unfold f_X12_cheapest at hf
  refine lv_iload_n hx hb dX12_cheapest_0 rfl (lv_at hl 1 rfl) ?_
  refine mt_jn1 hf (fun (v1 : Int32) => ∀ (H : Heap) (locs : List Loc) (ls : Array Slot), mt_H E M u H → va_S (mt_A E) s.heap H locs → lv_has ls 8 [(0, .ref (E.2.1 147)), (1, .int a1), (2, .int a2)] → W p l e (headSpec wsX12_cheapest ({ frames := 6, cells := 0, slots := 0, locals := 136 } : Room)).room s mid (([.ref (E.2.1 147), .int a1, .int a2] : List Value).toArray) below meth c0 H locs 0 0 (MQ below (mt_Qi E r M' u) (([.ref (E.2.1 147), .int a1, .int a2] : List Value).toArray) s 0 0 (mt_A E)) (F0 mid 32 ls [.int v1])) ?_ ?_
  · intro v1 hf H locs ls hH hS hl
    refine lv_istore_n (lv' := [(3, .int v1), (0, .ref (E.2.1 147)), (1, .int a1), (2, .int a2)]) hx hb dX12_cheapest_32 rfl hl (by decide) rfl (fun ls hl => ?_)
    refine lv_iload_n hx hb dX12_cheapest_33 rfl (lv_at hl 0 rfl) ?_
    refine lv_if_eq (tgt := 43) hx hb dX12_cheapest_34 (by decide) (fun c4 => ?_) (fun c4 => ?_)
    · have hf := mt_ifT c4 hf
      refine lv_bipush (v := 127) hx hb dX12_cheapest_43 (by decide) ?_
      refine lv_istore (lv' := [(4, .int (127 : Int32)), (3, .int v1), (0, .ref (E.2.1 147)), (1, .int a1), (2, .int a2)]) hx hb dX12_cheapest_45 hl (by decide) rfl (fun ls hl => ?_)
      refine lv_iconst (v := 0) hx hb dX12_cheapest_47 (by decide) ?_
      refine lv_istore (lv' := [(5, .int (0 : Int32)), (4, .int (127 : Int32)), (3, .int v1), (0, .ref (E.2.1 147)), (1, .int a1), (2, .int a2)]) hx hb dX12_cheapest_48 hl (by decide) rfl (fun ls hl => ?_)
      refine lv_iconst (v := 0) hx hb dX12_cheapest_50 (by decide) ?_
      refine lv_istore (lv' := [(6, .int (0 : Int32)), (5, .int (0 : Int32)), (4, .int (127 : Int32)), (3, .int v1), (0, .ref (E.2.1 147)), (1, .int a1), (2, .int a2)]) hx hb dX12_cheapest_51 hl (by decide) rfl (fun ls hl => ?_)
      refine mt_lpI4 hf (fun (x5 : Int32) (x6 : Int32) (x7 : Int32) (M8 : mt_M) => ∀ (H : Heap) (locs : List Loc) (ls : Array Slot), mt_H E M8 u H → va_S (mt_A E) s.heap H locs → lv_has ls 8 [(0, .ref (E.2.1 147)), (1, .int a1), (2, .int a2), (4, .int x5), (5, .int x6), (6, .int x7)] → W p l e (headSpec wsX12_cheapest ({ frames := 6, cells := 0, slots := 0, locals := 136 } : Room)).room s mid (([.ref (E.2.1 147), .int a1, .int a2] : List Value).toArray) below meth c0 H locs 0 0 (MQ below (mt_Qi E r M' u) (([.ref (E.2.1 147), .int a1, .int a2] : List Value).toArray) s 0 0 (mt_A E)) (F0 mid 53 ls [])) ?_ _ _ _ hH hS (lv_sub hl [4, 5, 6, 2, 1, 0] rfl)
      intro k9 ih10 x5 x6 x7 M8 hf H locs ls hH hS hl
      refine lv_iload hx hb dX12_cheapest_53 (lv_at hl 5 rfl) ?_
      refine lv_iload_n hx hb dX12_cheapest_55 rfl (lv_at hl 1 rfl) ?_
      refine lv_icmp_ge (tgt := 112) hx hb dX12_cheapest_56 (by decide) (fun c11 => ?_) (fun c11 => ?_)
      · have hf := mt_ifT c11 hf
        refine lv_iload hx hb dX12_cheapest_112 (lv_at hl 4 rfl) ?_
        obtain ⟨i1, i2⟩ := mt_so2 hf
        subst i1
        subst i2
        exact mt_iret hx hb hr hI hH hS hlocks dX12_cheapest_114
      · have hf := mt_ifF c11 hf
        refine lv_aload_n hx hb dX12_cheapest_59 rfl (lv_at hl 0 rfl) ?_
        refine lv_iload hx hb dX12_cheapest_60 (lv_at hl 3 rfl) ?_
        refine lv_iload_n hx hb dX12_cheapest_62 rfl (lv_at hl 2 rfl) ?_
        refine mt_b2I hf (fun r13 M14 hg12 hf => ?_)
        refine mt_goi (mt_runV (i := 147) (As := [.int x5, .int a2]) (rest := []) ⟨hx, hb, hml, hown, hts⟩ hI hH (c_X12_cheapestOf l E x5 a2 M8 u _ _ hg12) (cwV 2 hts gX12_cheapest_X12_cheapestOf rfl rfl rfl (by decide +kernel) ⟨Nat.le_of_ble_eq_true rfl, Nat.le_of_ble_eq_true rfl⟩) mt_T147 rfl rfl hl.1 rfl (Nat.le_of_ble_eq_true rfl) dX12_cheapest_63 ⟨Nat.zero_le _, Nat.zero_le _⟩) hS (fun H locs hH hS => ?_)
        refine lv_istore (lv' := [(7, .int r13), (0, .ref (E.2.1 147)), (1, .int a1), (2, .int a2), (4, .int x5), (5, .int x6), (6, .int x7)]) hx hb dX12_cheapest_66 hl (by decide) rfl (fun ls hl => ?_)
        refine lv_iload hx hb dX12_cheapest_68 (lv_at hl 0 rfl) ?_
        refine lv_if_ge (tgt := 76) hx hb dX12_cheapest_70 (by decide) (fun c15 => ?_) (fun c15 => ?_)
        · have hf := mt_ifT c15 hf
          refine lv_iload hx hb dX12_cheapest_76 (lv_at hl 4 rfl) ?_
          refine lv_iconst (v := 1) hx hb dX12_cheapest_78 (by decide) ?_
          refine lv_iload hx hb dX12_cheapest_79 (lv_at hl 0 rfl) ?_
          refine lv_ishl hx hb dX12_cheapest_81 ?_
          refine lv_iconst (v := (-1)) hx hb dX12_cheapest_82 (by decide) ?_
          refine lv_ixor hx hb dX12_cheapest_83 ?_
          refine lv_iand hx hb dX12_cheapest_84 ?_
          refine mt_lti hf (fun x16 ex16 hf => ?_)
          refine lv_istore (lv' := [(4, .int x16), (7, .int r13), (0, .ref (E.2.1 147)), (1, .int a1), (2, .int a2), (5, .int x6), (6, .int x7)]) hx hb dX12_cheapest_85 hl (by decide) rfl (fun ls hl => ?_)
          refine lv_iload hx hb dX12_cheapest_87 (lv_at hl 5 rfl) ?_
          refine lv_aload_n hx hb dX12_cheapest_89 rfl (lv_at hl 2 rfl) ?_
          refine lv_iload hx hb dX12_cheapest_90 (lv_at hl 1 rfl) ?_
          refine lv_iload_n hx hb dX12_cheapest_92 rfl (lv_at hl 4 rfl) ?_
          refine mt_b2I hf (fun r18 M19 hg17 hf => ?_)
          refine mt_goi (mt_runV (i := 147) (As := [.int r13, .int a2]) (rest := [.int x6]) ⟨hx, hb, hml, hown, hts⟩ hI hH (c_X12_packsFor l E r13 a2 M14 u _ _ hg17) (cwV 2 hts gX12_cheapest_X12_packsFor rfl rfl rfl (by decide +kernel) ⟨Nat.le_of_ble_eq_true rfl, Nat.le_of_ble_eq_true rfl⟩) mt_T147 rfl rfl hl.1 rfl (Nat.le_of_ble_eq_true rfl) dX12_cheapest_93 ⟨Nat.zero_le _, Nat.zero_le _⟩) hS (fun H locs hH hS => ?_)
          refine lv_aload_n hx hb dX12_cheapest_96 rfl (lv_at hl 2 rfl) ?_
          refine lv_iload hx hb dX12_cheapest_97 (lv_at hl 1 rfl) ?_
          refine mt_b1I hf (fun r21 hg20 hf => ?_)
          refine mt_goi (mt_runV (i := 147) (As := [.int r13]) (rest := [.int r18, .int x6]) ⟨hx, hb, hml, hown, hts⟩ hI hH (c_X12_priceOf l E r13 M19 u _ hg20) (cwV 1 hts gX12_cheapest_X12_priceOf rfl rfl rfl (by decide +kernel) ⟨Nat.le_of_ble_eq_true rfl, Nat.le_of_ble_eq_true rfl⟩) mt_T147 rfl rfl hl.1 rfl (Nat.le_of_ble_eq_true rfl) dX12_cheapest_99 ⟨Nat.zero_le _, Nat.zero_le _⟩) hS (fun H locs hH hS => ?_)
          refine lv_imul hx hb dX12_cheapest_102 ?_
          refine lv_iadd hx hb dX12_cheapest_103 ?_
          refine mt_lti hf (fun x22 ex22 hf => ?_)
          refine lv_istore (lv' := [(5, .int x22), (4, .int x16), (7, .int r13), (0, .ref (E.2.1 147)), (1, .int a1), (2, .int a2), (6, .int x7)]) hx hb dX12_cheapest_104 hl (by decide) rfl (fun ls hl => ?_)
          refine mt_ltI hf (fun x23 ex23 hf => ?_)
          refine lv_iinc (v := x23) (lv' := [(6, .int x23), (5, .int x22), (4, .int x16), (7, .int r13), (0, .ref (E.2.1 147)), (1, .int a1), (2, .int a2)]) hx hb dX12_cheapest_106 hl (k := 6) rfl (by rw [ex23]; rfl) (by decide) rfl (fun ls hl => ?_)
          refine lv_goto (tgt := 53) hx hb dX12_cheapest_109 (by decide) ?_
          exact ih10 x16 x22 x23 M19 hf _ _ _ hH hS (lv_sub hl [4, 5, 6, 2, 1, 0] rfl)
        · have hf := mt_ifF c15 hf
          refine lv_bipush (v := (-9)) hx hb dX12_cheapest_73 (by decide) ?_
          obtain ⟨i1, i2⟩ := mt_so2 hf
          subst i1
          subst i2
          exact mt_iret hx hb hr hI hH hS hlocks dX12_cheapest_75
    · have hf := mt_ifF c4 hf
      refine lv_aload_n hx hb dX12_cheapest_37 rfl (lv_at hl 1 rfl) ?_
      refine lv_iload_n hx hb dX12_cheapest_38 rfl (lv_at hl 0 rfl) ?_
      refine mt_b2I hf (fun r25 M26 hg24 hf => ?_)
      refine mt_goi (mt_runV (i := 147) (As := [.int v1]) (rest := []) ⟨hx, hb, hml, hown, hts⟩ hI hH (c_X12_no l E v1 M u _ _ hg24) (cwV 1 hts gX12_cheapest_X12_no rfl rfl rfl (by decide +kernel) ⟨Nat.le_of_ble_eq_true rfl, Nat.le_of_ble_eq_true rfl⟩) mt_T147 rfl rfl hl.1 rfl (Nat.le_of_ble_eq_true rfl) dX12_cheapest_39 ⟨Nat.zero_le _, Nat.zero_le _⟩) hS (fun H locs hH hS => ?_)
      obtain ⟨i1, i2⟩ := mt_so2 hf
      subst i1
      subst i2
      exact mt_iret hx hb hr hI hH hS hlocks dX12_cheapest_42
  · intro j2 hj3 hf
    refine mt_jn0 hf (∀ (H : Heap) (locs : List Loc) (ls : Array Slot), mt_H E M u H → va_S (mt_A E) s.heap H locs → lv_has ls 8 [(0, .ref (E.2.1 147)), (1, .int a1), (2, .int a2)] → W p l e (headSpec wsX12_cheapest ({ frames := 6, cells := 0, slots := 0, locals := 136 } : Room)).room s mid (([.ref (E.2.1 147), .int a1, .int a2] : List Value).toArray) below meth c0 H locs 0 0 (MQ below (mt_Qi E r M' u) (([.ref (E.2.1 147), .int a1, .int a2] : List Value).toArray) s 0 0 (mt_A E)) (F0 mid 9 ls [])) ?_ ?_
    · intro hf H locs ls hH hS hl
      refine lv_bipush (v := (-4)) hx hb dX12_cheapest_9 (by decide) ?_
      refine lv_goto (tgt := 32) hx hb dX12_cheapest_11 (by decide) ?_
      exact hj3 (-4 : Int32) hf _ _ _ hH hS (lv_sub hl [0, 1, 2] rfl)
    · intro j27 hj28 hf
      refine lv_if_lt (tgt := 9) hx hb dX12_cheapest_1 (by decide) (fun c29 => ?_) (fun c29 => ?_)
      · have hf := mt_ifT c29 hf
        exact hj28 hf _ _ _ hH hS (lv_sub hl [0, 1, 2] rfl)
      · have hf := mt_ifF c29 hf
        refine lv_iload_n hx hb dX12_cheapest_4 rfl (lv_at hl 2 rfl) ?_
        refine lv_iconst (v := 1) hx hb dX12_cheapest_5 (by decide) ?_
        refine lv_icmp_ge (tgt := 14) hx hb dX12_cheapest_6 (by decide) (fun c30 => ?_) (fun c30 => ?_)
        · have hf := mt_ifT c30 hf
          refine lv_iload_n hx hb dX12_cheapest_14 rfl (lv_at hl 1 rfl) ?_
          refine lv_bipush (v := 7) hx hb dX12_cheapest_15 (by decide) ?_
          refine mt_jn0 hf (∀ (H : Heap) (locs : List Loc) (ls : Array Slot), mt_H E M u H → va_S (mt_A E) s.heap H locs → lv_has ls 8 [(0, .ref (E.2.1 147)), (1, .int a1), (2, .int a2)] → W p l e (headSpec wsX12_cheapest ({ frames := 6, cells := 0, slots := 0, locals := 136 } : Room)).room s mid (([.ref (E.2.1 147), .int a1, .int a2] : List Value).toArray) below meth c0 H locs 0 0 (MQ below (mt_Qi E r M' u) (([.ref (E.2.1 147), .int a1, .int a2] : List Value).toArray) s 0 0 (mt_A E)) (F0 mid 26 ls [])) ?_ ?_
          · intro hf H locs ls hH hS hl
            refine lv_bipush (v := (-6)) hx hb dX12_cheapest_26 (by decide) ?_
            refine lv_goto (tgt := 32) hx hb dX12_cheapest_28 (by decide) ?_
            exact hj3 (-6 : Int32) hf _ _ _ hH hS (lv_sub hl [0, 1, 2] rfl)
          · intro j31 hj32 hf
            refine lv_icmp_gt (tgt := 26) hx hb dX12_cheapest_17 (by decide) (fun c33 => ?_) (fun c33 => ?_)
            · have hf := mt_ifT c33 hf
              exact hj32 hf _ _ _ hH hS (lv_sub hl [0, 1, 2] rfl)
            · have hf := mt_ifF c33 hf
              refine lv_iload_n hx hb dX12_cheapest_20 rfl (lv_at hl 2 rfl) ?_
              refine lv_bipush (v := 30) hx hb dX12_cheapest_21 (by decide) ?_
              refine lv_icmp_le (tgt := 31) hx hb dX12_cheapest_23 (by decide) (fun c34 => ?_) (fun c34 => ?_)
              · have hf := mt_ifT c34 hf
                refine lv_iconst (v := 0) hx hb dX12_cheapest_31 (by decide) ?_
                exact hj3 (0 : Int32) hf _ _ _ hH hS (lv_sub hl [0, 1, 2] rfl)
              · have hf := mt_ifF c34 hf
                exact hj32 hf _ _ _ hH hS (lv_sub hl [0, 1, 2] rfl)
        · have hf := mt_ifF c30 hf
          exact hj28 hf _ _ _ hH hS (lv_sub hl [0, 1, 2] rfl)
set_option maxHeartbeats 4000000 in
set_option maxRecDepth 100000 in
theorem c_X12_isEnough (l : Launch) (E : mt_E) (a1 : Int32) (a2 : Int32) (M : mt_M) (u : mt_U) (r : Int32) (M' : mt_M) (hf : f_X12_isEnough a1 a2 M = some (r, M')) : Met l yX12_isEnough wsX12_isEnough ({ frames := 3, cells := 0, slots := 0, locals := 67 } : Room) (mt_P E [.ref (E.2.1 147), .int a1, .int a2] M u) (mt_Qi E r M' u) 0 0 (mt_A E) := by
  refine Met.ofW (cc := cX12_isEnough) (maxL := 6) (ret := (some .boolean)) (by decide) rfl ?_
  intro p e s mid args below meth c0 s₁ B hml hv
  obtain ⟨rfl, hI, hH⟩ := hv
  have hx := B.exec
  have hb := B.bytes
  have hr := B.returns
  have hts := atoms_spec (ws := wsX12_isEnough) B.pre
  have hown : s.vm.findClass RX12 = some mid.cls := findClass_of_methodNamed B.named
  have hlocks := B.notSynchronized
  have hS : va_S (mt_A E) s.heap s.heap [] := va_S.rf
  have hl := lv_entry ([.ref (E.2.1 147), .int a1, .int a2]) (n := 6) (Nat.le_of_ble_eq_true rfl)
  rw [lg_entry_eq]
  generalize (lg_sl ([.ref (E.2.1 147), .int a1, .int a2]) ++ List.replicate (6 - (lg_sl ([.ref (E.2.1 147), .int a1, .int a2])).length) Slot.unset).toArray = ls at hl ⊢
  have hl : lv_has ls 6 [(0, .ref (E.2.1 147)), (1, .int a1), (2, .int a2)] := hl
  unfold f_X12_isEnough at hf
  have kw0 := hts (.fieldLink RX12 31 "MilkTwiceModel" "sums" "[I") (List.mem_of_getElem? (i := 1) rfl)
  have kw1 := hts (.fieldLink RX12 59 "MilkTwiceModel" "things" "I") (List.mem_of_getElem? (i := 2) rfl)
  have hinX12 : ∀ w ∈ u_ws RX12 TX12 29, w ∈ wsX12_isEnough := fun w h => List.mem_cons_of_mem _ (List.mem_append_right _ h)
  refine lv_aload_n hx hb dX12_isEnough_0 rfl (lv_at hl 0 rfl) ?_
  refine mt_b1I hf (fun M2 hg1 hf => ?_)
  refine mt_gov (mt_runV (i := 147) (As := []) (rest := []) ⟨hx, hb, hml, hown, hts⟩ hI hH (c_X12_thinks l E M u _ hg1) (cwV 0 hts gX12_isEnough_X12_thinks rfl rfl rfl (by decide +kernel) ⟨Nat.le_of_ble_eq_true rfl, Nat.le_of_ble_eq_true rfl⟩) mt_T147 rfl rfl hl.1 rfl (Nat.le_of_ble_eq_true rfl) dX12_isEnough_1 ⟨Nat.zero_le _, Nat.zero_le _⟩) hS (fun H locs hH hS => ?_)
  refine lv_aload_n hx hb dX12_isEnough_4 rfl (lv_at hl 0 rfl) ?_
  refine mt_getr (C := RX12) (T := TX12) (N := 29) hx hb hts hinX12 hown hI hH mt_T147 rfl 7 (by decide) kw0 rfl rfl dX12_isEnough_5 ?_
  refine lv_iconst (v := 1) hx hb dX12_isEnough_8 (by decide) ?_
  refine mt_iald hx hb hI hH mt_T155 (mt_vl (by decide)) dX12_isEnough_9 ?_
  refine mt_lti hf (fun x3 ex3 hf => ?_)
  refine lv_istore_n (lv' := [(3, .int x3), (0, .ref (E.2.1 147)), (1, .int a1), (2, .int a2)]) hx hb dX12_isEnough_10 rfl hl (by decide) rfl (fun ls hl => ?_)
  refine lv_iconst (v := 0) hx hb dX12_isEnough_11 (by decide) ?_
  refine lv_istore (lv' := [(4, .int (0 : Int32)), (3, .int x3), (0, .ref (E.2.1 147)), (1, .int a1), (2, .int a2)]) hx hb dX12_isEnough_12 hl (by decide) rfl (fun ls hl => ?_)
  refine mt_lpI2 hf (fun (x4 : Int32) (M5 : mt_M) => ∀ (H : Heap) (locs : List Loc) (ls : Array Slot), mt_H E M5 u H → va_S (mt_A E) s.heap H locs → lv_has ls 6 [(0, .ref (E.2.1 147)), (1, .int a1), (2, .int a2), (3, .int x3), (4, .int x4)] → W p l e (headSpec wsX12_isEnough ({ frames := 3, cells := 0, slots := 0, locals := 67 } : Room)).room s mid (([.ref (E.2.1 147), .int a1, .int a2] : List Value).toArray) below meth c0 H locs 0 0 (MQ below (mt_Qi E r M' u) (([.ref (E.2.1 147), .int a1, .int a2] : List Value).toArray) s 0 0 (mt_A E)) (F0 mid 14 ls [])) ?_ _ _ _ hH hS (lv_sub hl [2, 3, 4, 1, 0] rfl)
  intro k6 ih7 x4 M5 hf H locs ls hH hS hl
  refine lv_iload hx hb dX12_isEnough_14 (lv_at hl 4 rfl) ?_
  refine lv_bipush (v := 30) hx hb dX12_isEnough_16 (by decide) ?_
  refine lv_icmp_ge (tgt := 70) hx hb dX12_isEnough_18 (by decide) (fun c8 => ?_) (fun c8 => ?_)
  · have hf := mt_ifT c8 hf
    refine lv_aload_n hx hb dX12_isEnough_70 rfl (lv_at hl 0 rfl) ?_
    refine mt_getr (C := RX12) (T := TX12) (N := 29) hx hb hts hinX12 hown hI hH mt_T147 rfl 7 (by decide) kw0 rfl rfl dX12_isEnough_71 ?_
    refine lv_iconst (v := 1) hx hb dX12_isEnough_74 (by decide) ?_
    refine mt_iald hx hb hI hH mt_T155 (mt_vl (by decide)) dX12_isEnough_75 ?_
    refine lv_iload_n hx hb dX12_isEnough_76 rfl (lv_at hl 3 rfl) ?_
    refine mt_jn1 hf (fun (v9 : Int32) => ∀ (H : Heap) (locs : List Loc) (ls : Array Slot), mt_H E M5 u H → va_S (mt_A E) s.heap H locs → lv_has ls 6 [(0, .ref (E.2.1 147))] → W p l e (headSpec wsX12_isEnough ({ frames := 3, cells := 0, slots := 0, locals := 67 } : Room)).room s mid (([.ref (E.2.1 147), .int a1, .int a2] : List Value).toArray) below meth c0 H locs 0 0 (MQ below (mt_Qi E r M' u) (([.ref (E.2.1 147), .int a1, .int a2] : List Value).toArray) s 0 0 (mt_A E)) (F0 mid 85 ls [.int v9])) ?_ ?_
    · intro v9 hf H locs ls hH hS hl
      refine lv_istore (lv' := [(4, .int v9), (0, .ref (E.2.1 147))]) hx hb dX12_isEnough_85 hl (by decide) rfl (fun ls hl => ?_)
      refine lv_aload_n hx hb dX12_isEnough_87 rfl (lv_at hl 1 rfl) ?_
      refine mt_b1I hf (fun M13 hg12 hf => ?_)
      refine mt_gov (mt_runV (i := 147) (As := []) (rest := []) ⟨hx, hb, hml, hown, hts⟩ hI hH (c_X12_forgets l E M5 u _ hg12) (cwV 0 hts gX12_isEnough_X12_forgets rfl rfl rfl (by decide +kernel) ⟨Nat.le_of_ble_eq_true rfl, Nat.le_of_ble_eq_true rfl⟩) mt_T147 rfl rfl hl.1 rfl (Nat.le_of_ble_eq_true rfl) dX12_isEnough_88 ⟨Nat.zero_le _, Nat.zero_le _⟩) hS (fun H locs hH hS => ?_)
      refine lv_iload hx hb dX12_isEnough_91 (lv_at hl 0 rfl) ?_
      refine mt_ckI hf (fun q14 hf => ?_)
      obtain ⟨i1, i2⟩ := mt_so2 hf
      subst i1
      subst i2
      exact mt_zret hx hb hr hI hH hS q14 hlocks dX12_isEnough_93
    · intro j10 hj11 hf
      refine lv_icmp_ne (tgt := 84) hx hb dX12_isEnough_77 (by decide) (fun c15 => ?_) (fun c15 => ?_)
      · have hf := mt_ifF c15 hf
        refine lv_iconst (v := 0) hx hb dX12_isEnough_84 (by decide) ?_
        exact hj11 (0 : Int32) hf _ _ _ hH hS (lv_sub hl [0] rfl)
      · have hf := mt_ifT c15 hf
        refine lv_iconst (v := 1) hx hb dX12_isEnough_80 (by decide) ?_
        refine lv_goto (tgt := 85) hx hb dX12_isEnough_81 (by decide) ?_
        exact hj11 (1 : Int32) hf _ _ _ hH hS (lv_sub hl [0] rfl)
  · have hf := mt_ifF c8 hf
    refine lv_iconst (v := 0) hx hb dX12_isEnough_21 (by decide) ?_
    refine lv_istore (lv' := [(5, .int (0 : Int32)), (0, .ref (E.2.1 147)), (1, .int a1), (2, .int a2), (3, .int x3), (4, .int x4)]) hx hb dX12_isEnough_22 hl (by decide) rfl (fun ls hl => ?_)
    refine mt_lpI2 hf (fun (x16 : Int32) (M17 : mt_M) => ∀ (H : Heap) (locs : List Loc) (ls : Array Slot), mt_H E M17 u H → va_S (mt_A E) s.heap H locs → lv_has ls 6 [(0, .ref (E.2.1 147)), (1, .int a1), (2, .int a2), (3, .int x3), (4, .int x4), (5, .int x16)] → W p l e (headSpec wsX12_isEnough ({ frames := 3, cells := 0, slots := 0, locals := 67 } : Room)).room s mid (([.ref (E.2.1 147), .int a1, .int a2] : List Value).toArray) below meth c0 H locs 0 0 (MQ below (mt_Qi E r M' u) (([.ref (E.2.1 147), .int a1, .int a2] : List Value).toArray) s 0 0 (mt_A E)) (F0 mid 24 ls [])) ?_ _ _ _ hH hS (lv_sub hl [1, 2, 3, 4, 5, 0] rfl)
    intro k18 ih19 x16 M17 hf H locs ls hH hS hl
    refine lv_iload hx hb dX12_isEnough_24 (lv_at hl 5 rfl) ?_
    refine lv_iload_n hx hb dX12_isEnough_26 rfl (lv_at hl 1 rfl) ?_
    refine lv_aload_n hx hb dX12_isEnough_27 rfl (lv_at hl 0 rfl) ?_
    refine mt_geti (C := RX12) (T := TX12) (N := 29) hx hb hts hinX12 hown hI hH mt_T147 rfl 8 (by decide) kw1 rfl rfl dX12_isEnough_28 ?_
    refine lv_imul hx hb dX12_isEnough_31 ?_
    refine mt_jn0 hf (∀ (H : Heap) (locs : List Loc) (ls : Array Slot), mt_H E M17 u H → va_S (mt_A E) s.heap H locs → lv_has ls 6 [(0, .ref (E.2.1 147)), (1, .int a1), (2, .int a2), (3, .int x3), (4, .int x4)] → W p l e (headSpec wsX12_isEnough ({ frames := 3, cells := 0, slots := 0, locals := 67 } : Room)).room s mid (([.ref (E.2.1 147), .int a1, .int a2] : List Value).toArray) below meth c0 H locs 0 0 (MQ below (mt_Qi E r M' u) (([.ref (E.2.1 147), .int a1, .int a2] : List Value).toArray) s 0 0 (mt_A E)) (F0 mid 59 ls [])) ?_ ?_
    · intro hf H locs ls hH hS hl
      refine lv_aload_n hx hb dX12_isEnough_59 rfl (lv_at hl 0 rfl) ?_
      refine mt_b2I hf (fun r23 M24 hg22 hf => ?_)
      refine mt_goi (mt_runV (i := 147) (As := []) (rest := []) ⟨hx, hb, hml, hown, hts⟩ hI hH (c_X12_goesDay l E M17 u _ _ hg22) (cwV 0 hts gX12_isEnough_X12_goesDay rfl rfl rfl (by decide +kernel) ⟨Nat.le_of_ble_eq_true rfl, Nat.le_of_ble_eq_true rfl⟩) mt_T147 rfl rfl hl.1 rfl (Nat.le_of_ble_eq_true rfl) dX12_isEnough_60 ⟨Nat.zero_le _, Nat.zero_le _⟩) hS (fun H locs hH hS => ?_)
      refine lv_pop hx hb dX12_isEnough_63 rfl ?_
      refine mt_ltI hf (fun x25 ex25 hf => ?_)
      refine lv_iinc (v := x25) (lv' := [(4, .int x25), (0, .ref (E.2.1 147)), (1, .int a1), (2, .int a2), (3, .int x3)]) hx hb dX12_isEnough_64 hl (k := 4) rfl (by rw [ex25]; rfl) (by decide) rfl (fun ls hl => ?_)
      refine lv_goto (tgt := 14) hx hb dX12_isEnough_67 (by decide) ?_
      exact ih7 x25 M24 hf _ _ _ hH hS (lv_sub hl [1, 2, 3, 4, 0] rfl)
    · intro j20 hj21 hf
      refine lv_icmp_ge (tgt := 59) hx hb dX12_isEnough_32 (by decide) (fun c26 => ?_) (fun c26 => ?_)
      · have hf := mt_ifT c26 hf
        exact hj21 hf _ _ _ hH hS (lv_sub hl [0, 1, 2, 3, 4] rfl)
      · have hf := mt_ifF c26 hf
        refine lv_iload hx hb dX12_isEnough_35 (lv_at hl 4 rfl) ?_
        refine lv_iload_n hx hb dX12_isEnough_37 rfl (lv_at hl 2 rfl) ?_
        refine mt_ckI hf (fun q27 hf => ?_)
        refine lv_irem hx hb dX12_isEnough_38 q27 ?_
        refine lv_if_ne (tgt := 59) hx hb dX12_isEnough_39 (by decide) (fun c28 => ?_) (fun c28 => ?_)
        · have hf := mt_ifF c28 hf
          exact hj21 hf _ _ _ hH hS (lv_sub hl [0, 1, 2, 3, 4] rfl)
        · have hf := mt_ifT c28 hf
          refine lv_aload_n hx hb dX12_isEnough_42 rfl (lv_at hl 0 rfl) ?_
          refine lv_iload hx hb dX12_isEnough_43 (lv_at hl 5 rfl) ?_
          refine lv_aload_n hx hb dX12_isEnough_45 rfl (lv_at hl 0 rfl) ?_
          refine mt_geti (C := RX12) (T := TX12) (N := 29) hx hb hts hinX12 hown hI hH mt_T147 rfl 8 (by decide) kw1 rfl rfl dX12_isEnough_46 ?_
          refine mt_ckI hf (fun q29 hf => ?_)
          refine lv_irem hx hb dX12_isEnough_49 q29 ?_
          refine mt_b1I hf (fun M31 hg30 hf => ?_)
          refine mt_gov (mt_runV (i := 147) (As := [.int (x16 - x16 / (M17 147 8) * (M17 147 8))]) (rest := []) ⟨hx, hb, hml, hown, hts⟩ hI hH (c_X12_gets l E (x16 - x16 / (M17 147 8) * (M17 147 8)) M17 u _ hg30) (cwV 1 hts gX12_isEnough_X12_gets rfl rfl rfl (by decide +kernel) ⟨Nat.le_of_ble_eq_true rfl, Nat.le_of_ble_eq_true rfl⟩) mt_T147 rfl rfl hl.1 rfl (Nat.le_of_ble_eq_true rfl) dX12_isEnough_50 ⟨Nat.zero_le _, Nat.zero_le _⟩) hS (fun H locs hH hS => ?_)
          refine mt_ltI hf (fun x32 ex32 hf => ?_)
          refine lv_iinc (v := x32) (lv' := [(5, .int x32), (0, .ref (E.2.1 147)), (1, .int a1), (2, .int a2), (3, .int x3), (4, .int x4)]) hx hb dX12_isEnough_53 hl (k := 5) rfl (by rw [ex32]; rfl) (by decide) rfl (fun ls hl => ?_)
          refine lv_goto (tgt := 24) hx hb dX12_isEnough_56 (by decide) ?_
          exact ih19 x32 M31 hf _ _ _ hH hS (lv_sub hl [1, 2, 3, 4, 5, 0] rfl)
set_option maxHeartbeats 4000000 in
set_option maxRecDepth 100000 in
theorem c_X12_interval (l : Launch) (E : mt_E) (a1 : Int32) (M : mt_M) (u : mt_U) (r : Int32) (M' : mt_M) (hf : f_X12_interval a1 M = some (r, M')) : Met l yX12_interval wsX12_interval ({ frames := 4, cells := 0, slots := 0, locals := 92 } : Room) (mt_P E [.ref (E.2.1 147), .int a1] M u) (mt_Qi E r M' u) 0 0 (mt_A E) := by
  refine Met.ofW (cc := cX12_interval) (maxL := 4) (ret := (some .int)) (by decide) rfl ?_
  intro p e s mid args below meth c0 s₁ B hml hv
  obtain ⟨rfl, hI, hH⟩ := hv
  have hx := B.exec
  have hb := B.bytes
  have hr := B.returns
  have hts := atoms_spec (ws := wsX12_interval) B.pre
  have hown : s.vm.findClass RX12 = some mid.cls := findClass_of_methodNamed B.named
  have hlocks := B.notSynchronized
  have hS : va_S (mt_A E) s.heap s.heap [] := va_S.rf
  have hl := lv_entry ([.ref (E.2.1 147), .int a1]) (n := 4) (Nat.le_of_ble_eq_true rfl)
  rw [lg_entry_eq]
  generalize (lg_sl ([.ref (E.2.1 147), .int a1]) ++ List.replicate (4 - (lg_sl ([.ref (E.2.1 147), .int a1])).length) Slot.unset).toArray = ls at hl ⊢
  have hl : lv_has ls 4 [(0, .ref (E.2.1 147)), (1, .int a1)] := hl
  unfold f_X12_interval at hf
  refine lv_iload_n hx hb dX12_interval_0 rfl (lv_at hl 1 rfl) ?_
  refine lv_iconst (v := 1) hx hb dX12_interval_1 (by decide) ?_
  refine lv_bipush (v := 9) hx hb dX12_interval_2 (by decide) ?_
  refine mt_b1I hf (fun r2 hg1 hf => ?_)
  refine mt_goi (mt_runS (As := [.int a1, .int (1 : Int32), .int (9 : Int32)]) (rest := []) ⟨hx, hb, hml, hown, hts⟩ hI hH (c_X12_bound l E a1 (1 : Int32) (9 : Int32) M u _ hg1) (va_cwS 3 hts gX12_interval_X12_bound rfl rfl rfl (by decide +kernel) ⟨Nat.le_of_ble_eq_true rfl, Nat.le_of_ble_eq_true rfl⟩) rfl hl.1 rfl (Nat.le_of_ble_eq_true rfl) dX12_interval_4 ⟨Nat.zero_le _, Nat.zero_le _⟩) hS (fun H locs hH hS => ?_)
  refine lv_istore_n (lv' := [(2, .int r2), (0, .ref (E.2.1 147)), (1, .int a1)]) hx hb dX12_interval_7 rfl hl (by decide) rfl (fun ls hl => ?_)
  refine lv_iload_n hx hb dX12_interval_8 rfl (lv_at hl 0 rfl) ?_
  refine lv_if_eq (tgt := 18) hx hb dX12_interval_9 (by decide) (fun c3 => ?_) (fun c3 => ?_)
  · have hf := mt_ifT c3 hf
    refine lv_bipush (v := 30) hx hb dX12_interval_18 (by decide) ?_
    refine lv_istore_n (lv' := [(3, .int (30 : Int32)), (2, .int r2), (0, .ref (E.2.1 147)), (1, .int a1)]) hx hb dX12_interval_20 rfl hl (by decide) rfl (fun ls hl => ?_)
    refine mt_lpI2 hf (fun (x4 : Int32) (M5 : mt_M) => ∀ (H : Heap) (locs : List Loc) (ls : Array Slot), mt_H E M5 u H → va_S (mt_A E) s.heap H locs → lv_has ls 4 [(0, .ref (E.2.1 147)), (1, .int a1), (3, .int x4)] → W p l e (headSpec wsX12_interval ({ frames := 4, cells := 0, slots := 0, locals := 92 } : Room)).room s mid (([.ref (E.2.1 147), .int a1] : List Value).toArray) below meth c0 H locs 0 0 (MQ below (mt_Qi E r M' u) (([.ref (E.2.1 147), .int a1] : List Value).toArray) s 0 0 (mt_A E)) (F0 mid 21 ls [])) ?_ _ _ _ hH hS (lv_sub hl [2, 3, 0] rfl)
    intro k6 ih7 x4 M5 hf H locs ls hH hS hl
    refine lv_iload_n hx hb dX12_interval_21 rfl (lv_at hl 2 rfl) ?_
    refine lv_if_le (tgt := 42) hx hb dX12_interval_22 (by decide) (fun c8 => ?_) (fun c8 => ?_)
    · have hf := mt_ifT c8 hf
      refine lv_bipush (v := (-9)) hx hb dX12_interval_42 (by decide) ?_
      obtain ⟨i1, i2⟩ := mt_so2 hf
      subst i1
      subst i2
      exact mt_iret hx hb hr hI hH hS hlocks dX12_interval_44
    · have hf := mt_ifF c8 hf
      refine lv_aload_n hx hb dX12_interval_25 rfl (lv_at hl 0 rfl) ?_
      refine lv_iload_n hx hb dX12_interval_26 rfl (lv_at hl 1 rfl) ?_
      refine lv_iload_n hx hb dX12_interval_27 rfl (lv_at hl 2 rfl) ?_
      refine mt_b2I hf (fun r10 M11 hg9 hf => ?_)
      refine mt_goi (mt_runV (i := 147) (As := [.int a1, .int x4]) (rest := []) ⟨hx, hb, hml, hown, hts⟩ hI hH (c_X12_isEnough l E a1 x4 M5 u _ _ hg9) (cwV 2 hts gX12_interval_X12_isEnough rfl rfl rfl (by decide +kernel) ⟨Nat.le_of_ble_eq_true rfl, Nat.le_of_ble_eq_true rfl⟩) mt_T147 rfl rfl hl.1 rfl (Nat.le_of_ble_eq_true rfl) dX12_interval_28 ⟨Nat.zero_le _, Nat.zero_le _⟩) hS (fun H locs hH hS => ?_)
      refine lv_if_eq (tgt := 36) hx hb dX12_interval_31 (by decide) (fun c12 => ?_) (fun c12 => ?_)
      · have hf := mt_ifT c12 hf
        refine mt_ltI hf (fun x13 ex13 hf => ?_)
        refine lv_iinc (v := x13) (lv' := [(3, .int x13), (0, .ref (E.2.1 147)), (1, .int a1)]) hx hb dX12_interval_36 hl (k := 2) rfl (by rw [ex13]; rfl) (by decide) rfl (fun ls hl => ?_)
        refine lv_goto (tgt := 21) hx hb dX12_interval_39 (by decide) ?_
        exact ih7 x13 M11 hf _ _ _ hH hS (lv_sub hl [1, 2, 0] rfl)
      · have hf := mt_ifF c12 hf
        refine lv_iload_n hx hb dX12_interval_34 rfl (lv_at hl 2 rfl) ?_
        obtain ⟨i1, i2⟩ := mt_so2 hf
        subst i1
        subst i2
        exact mt_iret hx hb hr hI hH hS hlocks dX12_interval_35
  · have hf := mt_ifF c3 hf
    refine lv_aload_n hx hb dX12_interval_12 rfl (lv_at hl 1 rfl) ?_
    refine lv_iload_n hx hb dX12_interval_13 rfl (lv_at hl 0 rfl) ?_
    refine mt_b2I hf (fun r15 M16 hg14 hf => ?_)
    refine mt_goi (mt_runV (i := 147) (As := [.int r2]) (rest := []) ⟨hx, hb, hml, hown, hts⟩ hI hH (c_X12_no l E r2 M u _ _ hg14) (cwV 1 hts gX12_interval_X12_no rfl rfl rfl (by decide +kernel) ⟨Nat.le_of_ble_eq_true rfl, Nat.le_of_ble_eq_true rfl⟩) mt_T147 rfl rfl hl.1 rfl (Nat.le_of_ble_eq_true rfl) dX12_interval_14 ⟨Nat.zero_le _, Nat.zero_le _⟩) hS (fun H locs hH hS => ?_)
    obtain ⟨i1, i2⟩ := mt_so2 hf
    subst i1
    subst i2
    exact mt_iret hx hb hr hI hH hS hlocks dX12_interval_17
set_option maxHeartbeats 4000000 in
set_option maxRecDepth 100000 in
theorem c_X12_skew (l : Launch) (E : mt_E) (a1 : Int32) (M : mt_M) (u : mt_U) (r : Int32) (M' : mt_M) (hf : f_X12_skew a1 M = some (r, M')) : Met l yX12_skew wsX12_skew ({ frames := 2, cells := 0, slots := 0, locals := 48 } : Room) (mt_P E [.ref (E.2.1 147), .int a1] M u) (mt_Qi E r M' u) 0 0 (mt_A E) := by
  refine Met.ofW (cc := cX12_skew) (maxL := 6) (ret := (some .int)) (by decide) rfl ?_
  intro p e s mid args below meth c0 s₁ B hml hv
  obtain ⟨rfl, hI, hH⟩ := hv
  have hx := B.exec
  have hb := B.bytes
  have hr := B.returns
  have hts := atoms_spec (ws := wsX12_skew) B.pre
  have hown : s.vm.findClass RX12 = some mid.cls := findClass_of_methodNamed B.named
  have hlocks := B.notSynchronized
  have hS : va_S (mt_A E) s.heap s.heap [] := va_S.rf
  have hl := lv_entry ([.ref (E.2.1 147), .int a1]) (n := 6) (Nat.le_of_ble_eq_true rfl)
  rw [lg_entry_eq]
  generalize (lg_sl ([.ref (E.2.1 147), .int a1]) ++ List.replicate (6 - (lg_sl ([.ref (E.2.1 147), .int a1])).length) Slot.unset).toArray = ls at hl ⊢
  have hl : lv_has ls 6 [(0, .ref (E.2.1 147)), (1, .int a1)] := hl
  unfold f_X12_skew at hf
  have kw0 := hts (.fieldLink RX12 59 "MilkTwiceModel" "things" "I") (List.mem_of_getElem? (i := 1) rfl)
  have kw1 := hts (.fieldLink RX12 28 "MilkTwiceModel" "clock" "[I") (List.mem_of_getElem? (i := 2) rfl)
  have kw2 := hts (.fieldLink RX12 25 "MilkTwiceModel" "wanted" "[I") (List.mem_of_getElem? (i := 3) rfl)
  have hinX12 : ∀ w ∈ u_ws RX12 TX12 29, w ∈ wsX12_skew := fun w h => List.mem_cons_of_mem _ (List.mem_append_right _ h)
  refine lv_iload_n hx hb dX12_skew_0 rfl (lv_at hl 1 rfl) ?_
  refine lv_bipush (v := (-9)) hx hb dX12_skew_1 (by decide) ?_
  refine lv_bipush (v := 9) hx hb dX12_skew_3 (by decide) ?_
  refine mt_b1I hf (fun r2 hg1 hf => ?_)
  refine mt_goi (mt_runS (As := [.int a1, .int (-9 : Int32), .int (9 : Int32)]) (rest := []) ⟨hx, hb, hml, hown, hts⟩ hI hH (c_X12_bound l E a1 (-9 : Int32) (9 : Int32) M u _ hg1) (va_cwS 3 hts gX12_skew_X12_bound rfl rfl rfl (by decide +kernel) ⟨Nat.le_of_ble_eq_true rfl, Nat.le_of_ble_eq_true rfl⟩) rfl hl.1 rfl (Nat.le_of_ble_eq_true rfl) dX12_skew_5 ⟨Nat.zero_le _, Nat.zero_le _⟩) hS (fun H locs hH hS => ?_)
  refine lv_istore_n (lv' := [(2, .int r2), (0, .ref (E.2.1 147)), (1, .int a1)]) hx hb dX12_skew_8 rfl hl (by decide) rfl (fun ls hl => ?_)
  refine lv_iload_n hx hb dX12_skew_9 rfl (lv_at hl 0 rfl) ?_
  refine lv_if_eq (tgt := 19) hx hb dX12_skew_10 (by decide) (fun c3 => ?_) (fun c3 => ?_)
  · have hf := mt_ifT c3 hf
    refine lv_iconst (v := 0) hx hb dX12_skew_19 (by decide) ?_
    refine lv_istore_n (lv' := [(3, .int (0 : Int32)), (2, .int r2), (0, .ref (E.2.1 147)), (1, .int a1)]) hx hb dX12_skew_20 rfl hl (by decide) rfl (fun ls hl => ?_)
    refine lv_iconst (v := 0) hx hb dX12_skew_21 (by decide) ?_
    refine lv_istore (lv' := [(4, .int (0 : Int32)), (3, .int (0 : Int32)), (2, .int r2), (0, .ref (E.2.1 147)), (1, .int a1)]) hx hb dX12_skew_22 hl (by decide) rfl (fun ls hl => ?_)
    refine mt_lpI2 hf (fun (x4 : Int32) (x5 : Int32) => ∀ (H : Heap) (locs : List Loc) (ls : Array Slot), mt_H E M u H → va_S (mt_A E) s.heap H locs → lv_has ls 6 [(0, .ref (E.2.1 147)), (1, .int a1), (3, .int x4), (4, .int x5)] → W p l e (headSpec wsX12_skew ({ frames := 2, cells := 0, slots := 0, locals := 48 } : Room)).room s mid (([.ref (E.2.1 147), .int a1] : List Value).toArray) below meth c0 H locs 0 0 (MQ below (mt_Qi E r M' u) (([.ref (E.2.1 147), .int a1] : List Value).toArray) s 0 0 (mt_A E)) (F0 mid 24 ls [])) ?_ _ _ _ hH hS (lv_sub hl [3, 4, 1, 0] rfl)
    intro k6 ih7 x4 x5 hf H locs ls hH hS hl
    refine lv_iload hx hb dX12_skew_24 (lv_at hl 3 rfl) ?_
    refine lv_aload_n hx hb dX12_skew_26 rfl (lv_at hl 0 rfl) ?_
    refine mt_geti (C := RX12) (T := TX12) (N := 29) hx hb hts hinX12 hown hI hH mt_T147 rfl 8 (by decide) kw0 rfl rfl dX12_skew_27 ?_
    refine lv_icmp_ge (tgt := 109) hx hb dX12_skew_30 (by decide) (fun c8 => ?_) (fun c8 => ?_)
    · have hf := mt_ifT c8 hf
      refine lv_iload_n hx hb dX12_skew_109 rfl (lv_at hl 2 rfl) ?_
      obtain ⟨i1, i2⟩ := mt_so2 hf
      subst i1
      subst i2
      exact mt_iret hx hb hr hI hH hS hlocks dX12_skew_110
    · have hf := mt_ifF c8 hf
      refine lv_aload_n hx hb dX12_skew_33 rfl (lv_at hl 0 rfl) ?_
      refine mt_getr (C := RX12) (T := TX12) (N := 29) hx hb hts hinX12 hown hI hH mt_T147 rfl 6 (by decide) kw1 rfl rfl dX12_skew_34 ?_
      refine lv_bipush (v := 7) hx hb dX12_skew_37 (by decide) ?_
      refine lv_iload hx hb dX12_skew_39 (lv_at hl 3 rfl) ?_
      refine lv_iadd hx hb dX12_skew_41 ?_
      refine mt_ciI hf (fun q9 hf => ?_)
      refine mt_iald hx hb hI hH mt_T154 q9 dX12_skew_42 ?_
      refine lv_iload_n hx hb dX12_skew_43 rfl (lv_at hl 1 rfl) ?_
      refine lv_iadd hx hb dX12_skew_44 ?_
      refine lv_aload_n hx hb dX12_skew_45 rfl (lv_at hl 0 rfl) ?_
      refine mt_getr (C := RX12) (T := TX12) (N := 29) hx hb hts hinX12 hown hI hH mt_T147 rfl 6 (by decide) kw1 rfl rfl dX12_skew_46 ?_
      refine lv_iload hx hb dX12_skew_49 (lv_at hl 3 rfl) ?_
      refine mt_ciI hf (fun q10 hf => ?_)
      refine mt_iald hx hb hI hH mt_T154 q10 dX12_skew_51 ?_
      refine mt_jn1 hf (fun (v11 : Int32) => ∀ (H : Heap) (locs : List Loc) (ls : Array Slot), mt_H E M u H → va_S (mt_A E) s.heap H locs → lv_has ls 6 [(0, .ref (E.2.1 147)), (1, .int a1), (3, .int x4), (4, .int x5)] → W p l e (headSpec wsX12_skew ({ frames := 2, cells := 0, slots := 0, locals := 48 } : Room)).room s mid (([.ref (E.2.1 147), .int a1] : List Value).toArray) below meth c0 H locs 0 0 (MQ below (mt_Qi E r M' u) (([.ref (E.2.1 147), .int a1] : List Value).toArray) s 0 0 (mt_A E)) (F0 mid 60 ls [.int v11])) ?_ ?_
      · intro v11 hf H locs ls hH hS hl
        refine lv_istore (lv' := [(5, .int v11), (0, .ref (E.2.1 147)), (1, .int a1), (3, .int x4), (4, .int x5)]) hx hb dX12_skew_60 hl (by decide) rfl (fun ls hl => ?_)
        refine lv_iload_n hx hb dX12_skew_62 rfl (lv_at hl 3 rfl) ?_
        refine lv_aload_n hx hb dX12_skew_63 rfl (lv_at hl 1 rfl) ?_
        refine mt_getr (C := RX12) (T := TX12) (N := 29) hx hb hts hinX12 hown hI hH mt_T147 rfl 5 (by decide) kw2 rfl rfl dX12_skew_64 ?_
        refine lv_iload hx hb dX12_skew_67 (lv_at hl 0 rfl) ?_
        refine mt_jn1 hf (fun (v14 : Int32) => ∀ (H : Heap) (locs : List Loc) (ls : Array Slot), mt_H E M u H → va_S (mt_A E) s.heap H locs → lv_has ls 6 [(0, .ref (E.2.1 147)), (1, .int a1), (4, .int x5)] → W p l e (headSpec wsX12_skew ({ frames := 2, cells := 0, slots := 0, locals := 48 } : Room)).room s mid (([.ref (E.2.1 147), .int a1] : List Value).toArray) below meth c0 H locs 0 0 (MQ below (mt_Qi E r M' u) (([.ref (E.2.1 147), .int a1] : List Value).toArray) s 0 0 (mt_A E)) (F0 mid 82 ls [.int v14, .ref (E.2.1 153), .int x4])) ?_ ?_
        · intro v14 hf H locs ls hH hS hl
          refine mt_ciI hf (fun q17 hf => ?_)
          refine mt_iald hx hb hI hH mt_T153 q17 dX12_skew_82 ?_
          refine lv_aload_n hx hb dX12_skew_83 rfl (lv_at hl 0 rfl) ?_
          refine lv_iconst (v := 0) hx hb dX12_skew_84 (by decide) ?_
          refine lv_iload hx hb dX12_skew_85 (lv_at hl 2 rfl) ?_
          refine mt_b1I hf (fun r19 hg18 hf => ?_)
          refine mt_goi (mt_runV (i := 147) (As := [.int (0 : Int32), .int x5]) (rest := [.int (M 153 v14.toNatClampNeg), .int x4]) ⟨hx, hb, hml, hown, hts⟩ hI hH (c_X12_wantedBy l E (0 : Int32) x5 M u _ hg18) (cwV 2 hts gX12_skew_X12_wantedBy rfl rfl rfl (by decide +kernel) ⟨Nat.le_of_ble_eq_true rfl, Nat.le_of_ble_eq_true rfl⟩) mt_T147 rfl rfl hl.1 rfl (Nat.le_of_ble_eq_true rfl) dX12_skew_87 ⟨Nat.zero_le _, Nat.zero_le _⟩) hS (fun H locs hH hS => ?_)
          refine mt_jn1 hf (fun (v20 : Int32) => ∀ (H : Heap) (locs : List Loc) (ls : Array Slot), mt_H E M u H → va_S (mt_A E) s.heap H locs → lv_has ls 6 [(0, .ref (E.2.1 147)), (1, .int a1), (4, .int x5)] → W p l e (headSpec wsX12_skew ({ frames := 2, cells := 0, slots := 0, locals := 48 } : Room)).room s mid (([.ref (E.2.1 147), .int a1] : List Value).toArray) below meth c0 H locs 0 0 (MQ below (mt_Qi E r M' u) (([.ref (E.2.1 147), .int a1] : List Value).toArray) s 0 0 (mt_A E)) (F0 mid 101 ls [.int v20, .int x4])) ?_ ?_
          · intro v20 hf H locs ls hH hS hl
            refine lv_ior hx hb dX12_skew_101 ?_
            refine mt_lti hf (fun x23 ex23 hf => ?_)
            refine lv_istore_n (lv' := [(3, .int x23), (0, .ref (E.2.1 147)), (1, .int a1), (4, .int x5)]) hx hb dX12_skew_102 rfl hl (by decide) rfl (fun ls hl => ?_)
            refine mt_ltI hf (fun x24 ex24 hf => ?_)
            refine lv_iinc (v := x24) (lv' := [(4, .int x24), (3, .int x23), (0, .ref (E.2.1 147)), (1, .int a1)]) hx hb dX12_skew_103 hl (k := 3) rfl (by rw [ex24]; rfl) (by decide) rfl (fun ls hl => ?_)
            refine lv_goto (tgt := 24) hx hb dX12_skew_106 (by decide) ?_
            exact ih7 x23 x24 hf _ _ _ hH hS (lv_sub hl [2, 3, 1, 0] rfl)
          · intro j21 hj22 hf
            refine lv_icmp_eq (tgt := 100) hx hb dX12_skew_90 (by decide) (fun c25 => ?_) (fun c25 => ?_)
            · have hf := mt_ifT c25 hf
              refine lv_iconst (v := 0) hx hb dX12_skew_100 (by decide) ?_
              exact hj22 (0 : Int32) hf _ _ _ hH hS (lv_sub hl [0, 1, 2] rfl)
            · have hf := mt_ifF c25 hf
              refine lv_iconst (v := 1) hx hb dX12_skew_93 (by decide) ?_
              refine lv_iload hx hb dX12_skew_94 (lv_at hl 2 rfl) ?_
              refine lv_ishl hx hb dX12_skew_96 ?_
              refine lv_goto (tgt := 101) hx hb dX12_skew_97 (by decide) ?_
              exact hj22 ((1 : Int32) <<< (x5 &&& 31)) hf _ _ _ hH hS (lv_sub hl [0, 1, 2] rfl)
        · intro j15 hj16 hf
          refine lv_if_eq (tgt := 80) hx hb dX12_skew_69 (by decide) (fun c26 => ?_) (fun c26 => ?_)
          · have hf := mt_ifT c26 hf
            refine lv_iload hx hb dX12_skew_80 (lv_at hl 4 rfl) ?_
            exact hj16 x5 hf _ _ _ hH hS (lv_sub hl [1, 2, 4] rfl)
          · have hf := mt_ifF c26 hf
            refine lv_bipush (v := 7) hx hb dX12_skew_72 (by decide) ?_
            refine lv_iload hx hb dX12_skew_74 (lv_at hl 4 rfl) ?_
            refine lv_iadd hx hb dX12_skew_76 ?_
            refine lv_goto (tgt := 82) hx hb dX12_skew_77 (by decide) ?_
            exact hj16 ((7 : Int32) + x5) hf _ _ _ hH hS (lv_sub hl [1, 2, 4] rfl)
      · intro j12 hj13 hf
        refine lv_icmp_le (tgt := 59) hx hb dX12_skew_52 (by decide) (fun c27 => ?_) (fun c27 => ?_)
        · have hf := mt_ifT c27 hf
          refine lv_iconst (v := 0) hx hb dX12_skew_59 (by decide) ?_
          exact hj13 (0 : Int32) hf _ _ _ hH hS (lv_sub hl [0, 1, 2, 3] rfl)
        · have hf := mt_ifF c27 hf
          refine lv_iconst (v := 1) hx hb dX12_skew_55 (by decide) ?_
          refine lv_goto (tgt := 60) hx hb dX12_skew_56 (by decide) ?_
          exact hj13 (1 : Int32) hf _ _ _ hH hS (lv_sub hl [0, 1, 2, 3] rfl)
  · have hf := mt_ifF c3 hf
    refine lv_aload_n hx hb dX12_skew_13 rfl (lv_at hl 1 rfl) ?_
    refine lv_iload_n hx hb dX12_skew_14 rfl (lv_at hl 0 rfl) ?_
    refine mt_b2I hf (fun r29 M30 hg28 hf => ?_)
    refine mt_goi (mt_runV (i := 147) (As := [.int r2]) (rest := []) ⟨hx, hb, hml, hown, hts⟩ hI hH (c_X12_no l E r2 M u _ _ hg28) (cwV 1 hts gX12_skew_X12_no rfl rfl rfl (by decide +kernel) ⟨Nat.le_of_ble_eq_true rfl, Nat.le_of_ble_eq_true rfl⟩) mt_T147 rfl rfl hl.1 rfl (Nat.le_of_ble_eq_true rfl) dX12_skew_15 ⟨Nat.zero_le _, Nat.zero_le _⟩) hS (fun H locs hH hS => ?_)
    obtain ⟨i1, i2⟩ := mt_so2 hf
    subst i1
    subst i2
    exact mt_iret hx hb hr hI hH hS hlocks dX12_skew_18
set_option maxHeartbeats 4000000 in
set_option maxRecDepth 100000 in
theorem c_X12_close (l : Launch) (E : mt_E) (a1 : Int32) (M : mt_M) (u : mt_U) (r : Int32) (M' : mt_M) (hf : f_X12_close a1 M = some (r, M')) : Met l yX12_close wsX12_close ({ frames := 1, cells := 0, slots := 0, locals := 22 } : Room) (mt_P E [.ref (E.2.1 147), .int a1] M u) (mt_Qi E r M' u) 0 0 (mt_A E) := by
  refine Met.ofW (cc := cX12_close) (maxL := 5) (ret := (some .int)) (by decide) rfl ?_
  intro p e s mid args below meth c0 s₁ B hml hv
  obtain ⟨rfl, hI, hH⟩ := hv
  have hx := B.exec
  have hb := B.bytes
  have hr := B.returns
  have hts := atoms_spec (ws := wsX12_close) B.pre
  have hown : s.vm.findClass RX12 = some mid.cls := findClass_of_methodNamed B.named
  have hlocks := B.notSynchronized
  have hS : va_S (mt_A E) s.heap s.heap [] := va_S.rf
  have hl := lv_entry ([.ref (E.2.1 147), .int a1]) (n := 5) (Nat.le_of_ble_eq_true rfl)
  rw [lg_entry_eq]
  generalize (lg_sl ([.ref (E.2.1 147), .int a1]) ++ List.replicate (5 - (lg_sl ([.ref (E.2.1 147), .int a1])).length) Slot.unset).toArray = ls at hl ⊢
  have hl : lv_has ls 5 [(0, .ref (E.2.1 147)), (1, .int a1)] := hl
  unfold f_X12_close at hf
  have kw0 := hts (.fieldLink RX12 59 "MilkTwiceModel" "things" "I") (List.mem_of_getElem? (i := 1) rfl)
  have kw1 := hts (.fieldLink RX12 28 "MilkTwiceModel" "clock" "[I") (List.mem_of_getElem? (i := 2) rfl)
  have hinX12 : ∀ w ∈ u_ws RX12 TX12 29, w ∈ wsX12_close := fun w h => List.mem_cons_of_mem _ (List.mem_append_right _ h)
  refine lv_iload_n hx hb dX12_close_0 rfl (lv_at hl 1 rfl) ?_
  refine lv_iconst (v := 0) hx hb dX12_close_1 (by decide) ?_
  refine lv_bipush (v := 9) hx hb dX12_close_2 (by decide) ?_
  refine mt_b1I hf (fun r2 hg1 hf => ?_)
  refine mt_goi (mt_runS (As := [.int a1, .int (0 : Int32), .int (9 : Int32)]) (rest := []) ⟨hx, hb, hml, hown, hts⟩ hI hH (c_X12_bound l E a1 (0 : Int32) (9 : Int32) M u _ hg1) (va_cwS 3 hts gX12_close_X12_bound rfl rfl rfl (by decide +kernel) ⟨Nat.le_of_ble_eq_true rfl, Nat.le_of_ble_eq_true rfl⟩) rfl hl.1 rfl (Nat.le_of_ble_eq_true rfl) dX12_close_4 ⟨Nat.zero_le _, Nat.zero_le _⟩) hS (fun H locs hH hS => ?_)
  refine lv_istore_n (lv' := [(2, .int r2), (0, .ref (E.2.1 147)), (1, .int a1)]) hx hb dX12_close_7 rfl hl (by decide) rfl (fun ls hl => ?_)
  refine lv_iload_n hx hb dX12_close_8 rfl (lv_at hl 0 rfl) ?_
  refine lv_if_eq (tgt := 18) hx hb dX12_close_9 (by decide) (fun c3 => ?_) (fun c3 => ?_)
  · have hf := mt_ifT c3 hf
    refine lv_iconst (v := 0) hx hb dX12_close_18 (by decide) ?_
    refine lv_istore_n (lv' := [(3, .int (0 : Int32)), (2, .int r2), (0, .ref (E.2.1 147)), (1, .int a1)]) hx hb dX12_close_19 rfl hl (by decide) rfl (fun ls hl => ?_)
    refine lv_iconst (v := 0) hx hb dX12_close_20 (by decide) ?_
    refine lv_istore (lv' := [(4, .int (0 : Int32)), (3, .int (0 : Int32)), (2, .int r2), (0, .ref (E.2.1 147)), (1, .int a1)]) hx hb dX12_close_21 hl (by decide) rfl (fun ls hl => ?_)
    refine mt_lpI2 hf (fun (x4 : Int32) (x5 : Int32) => ∀ (H : Heap) (locs : List Loc) (ls : Array Slot), mt_H E M u H → va_S (mt_A E) s.heap H locs → lv_has ls 5 [(0, .ref (E.2.1 147)), (1, .int a1), (3, .int x4), (4, .int x5)] → W p l e (headSpec wsX12_close ({ frames := 1, cells := 0, slots := 0, locals := 22 } : Room)).room s mid (([.ref (E.2.1 147), .int a1] : List Value).toArray) below meth c0 H locs 0 0 (MQ below (mt_Qi E r M' u) (([.ref (E.2.1 147), .int a1] : List Value).toArray) s 0 0 (mt_A E)) (F0 mid 23 ls [])) ?_ _ _ _ hH hS (lv_sub hl [3, 4, 1, 0] rfl)
    intro k6 ih7 x4 x5 hf H locs ls hH hS hl
    refine lv_iload hx hb dX12_close_23 (lv_at hl 3 rfl) ?_
    refine lv_aload_n hx hb dX12_close_25 rfl (lv_at hl 0 rfl) ?_
    refine mt_geti (C := RX12) (T := TX12) (N := 29) hx hb hts hinX12 hown hI hH mt_T147 rfl 8 (by decide) kw0 rfl rfl dX12_close_26 ?_
    refine lv_icmp_ge (tgt := 97) hx hb dX12_close_29 (by decide) (fun c8 => ?_) (fun c8 => ?_)
    · have hf := mt_ifT c8 hf
      refine lv_iload_n hx hb dX12_close_97 rfl (lv_at hl 2 rfl) ?_
      obtain ⟨i1, i2⟩ := mt_so2 hf
      subst i1
      subst i2
      exact mt_iret hx hb hr hI hH hS hlocks dX12_close_98
    · have hf := mt_ifF c8 hf
      refine lv_iload_n hx hb dX12_close_32 rfl (lv_at hl 2 rfl) ?_
      refine lv_aload_n hx hb dX12_close_33 rfl (lv_at hl 0 rfl) ?_
      refine mt_getr (C := RX12) (T := TX12) (N := 29) hx hb hts hinX12 hown hI hH mt_T147 rfl 6 (by decide) kw1 rfl rfl dX12_close_34 ?_
      refine lv_iload hx hb dX12_close_37 (lv_at hl 3 rfl) ?_
      refine mt_ciI hf (fun q9 hf => ?_)
      refine mt_iald hx hb hI hH mt_T154 q9 dX12_close_39 ?_
      refine lv_aload_n hx hb dX12_close_40 rfl (lv_at hl 0 rfl) ?_
      refine mt_getr (C := RX12) (T := TX12) (N := 29) hx hb hts hinX12 hown hI hH mt_T147 rfl 6 (by decide) kw1 rfl rfl dX12_close_41 ?_
      refine lv_bipush (v := 7) hx hb dX12_close_44 (by decide) ?_
      refine lv_iload hx hb dX12_close_46 (lv_at hl 3 rfl) ?_
      refine lv_iadd hx hb dX12_close_48 ?_
      refine mt_ciI hf (fun q10 hf => ?_)
      refine mt_iald hx hb hI hH mt_T154 q10 dX12_close_49 ?_
      refine lv_isub hx hb dX12_close_50 ?_
      refine lv_iload_n hx hb dX12_close_51 rfl (lv_at hl 1 rfl) ?_
      refine lv_ineg hx hb dX12_close_52 ?_
      refine lv_iload_n hx hb dX12_close_53 rfl (lv_at hl 1 rfl) ?_
      refine mt_b1I hf (fun r12 hg11 hf => ?_)
      refine mt_goi (mt_runS (As := [.int ((M 154 x5.toNatClampNeg) - (M 154 ((7 : Int32) + x5).toNatClampNeg)), .int (-a1), .int a1]) (rest := [.int x4]) ⟨hx, hb, hml, hown, hts⟩ hI hH (c_X12_isIn l E ((M 154 x5.toNatClampNeg) - (M 154 ((7 : Int32) + x5).toNatClampNeg)) (-a1) a1 M u _ hg11) (va_cwS 3 hts gX12_close_X12_isIn rfl rfl rfl (by decide +kernel) ⟨Nat.le_of_ble_eq_true rfl, Nat.le_of_ble_eq_true rfl⟩) rfl hl.1 rfl (Nat.le_of_ble_eq_true rfl) dX12_close_54 ⟨Nat.zero_le _, Nat.zero_le _⟩) hS (fun H locs hH hS => ?_)
      refine mt_jn1 hf (fun (v13 : Int32) => ∀ (H : Heap) (locs : List Loc) (ls : Array Slot), mt_H E M u H → va_S (mt_A E) s.heap H locs → lv_has ls 5 [(0, .ref (E.2.1 147)), (1, .int a1), (4, .int x5)] → W p l e (headSpec wsX12_close ({ frames := 1, cells := 0, slots := 0, locals := 22 } : Room)).room s mid (([.ref (E.2.1 147), .int a1] : List Value).toArray) below meth c0 H locs 0 0 (MQ below (mt_Qi E r M' u) (([.ref (E.2.1 147), .int a1] : List Value).toArray) s 0 0 (mt_A E)) (F0 mid 89 ls [.int v13, .int x4])) ?_ ?_
      · intro v13 hf H locs ls hH hS hl
        refine lv_ior hx hb dX12_close_89 ?_
        refine mt_lti hf (fun x16 ex16 hf => ?_)
        refine lv_istore_n (lv' := [(3, .int x16), (0, .ref (E.2.1 147)), (1, .int a1), (4, .int x5)]) hx hb dX12_close_90 rfl hl (by decide) rfl (fun ls hl => ?_)
        refine mt_ltI hf (fun x17 ex17 hf => ?_)
        refine lv_iinc (v := x17) (lv' := [(4, .int x17), (3, .int x16), (0, .ref (E.2.1 147)), (1, .int a1)]) hx hb dX12_close_91 hl (k := 3) rfl (by rw [ex17]; rfl) (by decide) rfl (fun ls hl => ?_)
        refine lv_goto (tgt := 23) hx hb dX12_close_94 (by decide) ?_
        exact ih7 x16 x17 hf _ _ _ hH hS (lv_sub hl [2, 3, 1, 0] rfl)
      · intro j14 hj15 hf
        refine mt_jn0 hf (∀ (H : Heap) (locs : List Loc) (ls : Array Slot), mt_H E M u H → va_S (mt_A E) s.heap H locs → lv_has ls 5 [(0, .ref (E.2.1 147)), (1, .int a1), (4, .int x5)] → W p l e (headSpec wsX12_close ({ frames := 1, cells := 0, slots := 0, locals := 22 } : Room)).room s mid (([.ref (E.2.1 147), .int a1] : List Value).toArray) below meth c0 H locs 0 0 (MQ below (mt_Qi E r M' u) (([.ref (E.2.1 147), .int a1] : List Value).toArray) s 0 0 (mt_A E)) (F0 mid 88 ls [.int x4])) ?_ ?_
        · intro hf H locs ls hH hS hl
          refine lv_iconst (v := 0) hx hb dX12_close_88 (by decide) ?_
          exact hj15 (0 : Int32) hf _ _ _ hH hS (lv_sub hl [0, 1, 2] rfl)
        · intro j18 hj19 hf
          refine lv_if_eq (tgt := 88) hx hb dX12_close_57 (by decide) (fun c20 => ?_) (fun c20 => ?_)
          · have hf := mt_ifT c20 hf
            exact hj19 hf _ _ _ hH hS (lv_sub hl [0, 1, 3] rfl)
          · have hf := mt_ifF c20 hf
            refine lv_aload_n hx hb dX12_close_60 rfl (lv_at hl 0 rfl) ?_
            refine mt_getr (C := RX12) (T := TX12) (N := 29) hx hb hts hinX12 hown hI hH mt_T147 rfl 6 (by decide) kw1 rfl rfl dX12_close_61 ?_
            refine lv_iload hx hb dX12_close_64 (lv_at hl 3 rfl) ?_
            refine mt_ciI hf (fun q21 hf => ?_)
            refine mt_iald hx hb hI hH mt_T154 q21 dX12_close_66 ?_
            refine lv_aload_n hx hb dX12_close_67 rfl (lv_at hl 0 rfl) ?_
            refine mt_getr (C := RX12) (T := TX12) (N := 29) hx hb hts hinX12 hown hI hH mt_T147 rfl 6 (by decide) kw1 rfl rfl dX12_close_68 ?_
            refine lv_bipush (v := 7) hx hb dX12_close_71 (by decide) ?_
            refine lv_iload hx hb dX12_close_73 (lv_at hl 3 rfl) ?_
            refine lv_iadd hx hb dX12_close_75 ?_
            refine mt_ciI hf (fun q22 hf => ?_)
            refine mt_iald hx hb hI hH mt_T154 q22 dX12_close_76 ?_
            refine lv_iadd hx hb dX12_close_77 ?_
            refine lv_if_le (tgt := 88) hx hb dX12_close_78 (by decide) (fun c23 => ?_) (fun c23 => ?_)
            · have hf := mt_ifT c23 hf
              exact hj19 hf _ _ _ hH hS (lv_sub hl [0, 1, 3] rfl)
            · have hf := mt_ifF c23 hf
              refine lv_iconst (v := 1) hx hb dX12_close_81 (by decide) ?_
              refine lv_iload hx hb dX12_close_82 (lv_at hl 3 rfl) ?_
              refine lv_ishl hx hb dX12_close_84 ?_
              refine lv_goto (tgt := 89) hx hb dX12_close_85 (by decide) ?_
              exact hj15 ((1 : Int32) <<< (x5 &&& 31)) hf _ _ _ hH hS (lv_sub hl [0, 1, 3] rfl)
  · have hf := mt_ifF c3 hf
    refine lv_aload_n hx hb dX12_close_12 rfl (lv_at hl 1 rfl) ?_
    refine lv_iload_n hx hb dX12_close_13 rfl (lv_at hl 0 rfl) ?_
    refine mt_b2I hf (fun r25 M26 hg24 hf => ?_)
    refine mt_goi (mt_runV (i := 147) (As := [.int r2]) (rest := []) ⟨hx, hb, hml, hown, hts⟩ hI hH (c_X12_no l E r2 M u _ _ hg24) (cwV 1 hts gX12_close_X12_no rfl rfl rfl (by decide +kernel) ⟨Nat.le_of_ble_eq_true rfl, Nat.le_of_ble_eq_true rfl⟩) mt_T147 rfl rfl hl.1 rfl (Nat.le_of_ble_eq_true rfl) dX12_close_14 ⟨Nat.zero_le _, Nat.zero_le _⟩) hS (fun H locs hH hS => ?_)
    obtain ⟨i1, i2⟩ := mt_so2 hf
    subst i1
    subst i2
    exact mt_iret hx hb hr hI hH hS hlocks dX12_close_17
set_option maxHeartbeats 4000000 in
set_option maxRecDepth 100000 in
theorem c_X12_worth (l : Launch) (E : mt_E)  (M : mt_M) (u : mt_U) (r : Int32) (hf : f_X12_worth M = some (r)) : Met l yX12_worth wsX12_worth ({ frames := 1, cells := 0, slots := 0, locals := 22 } : Room) (mt_P E [.ref (E.2.1 147)] M u) (mt_Qi E r M u) 0 0 (mt_A E) := by
  refine Met.ofW (cc := cX12_worth) (maxL := 3) (ret := (some .int)) (by decide) rfl ?_
  intro p e s mid args below meth c0 s₁ B hml hv
  obtain ⟨rfl, hI, hH⟩ := hv
  have hx := B.exec
  have hb := B.bytes
  have hr := B.returns
  have hts := atoms_spec (ws := wsX12_worth) B.pre
  have hown : s.vm.findClass RX12 = some mid.cls := findClass_of_methodNamed B.named
  have hlocks := B.notSynchronized
  have hS : va_S (mt_A E) s.heap s.heap [] := va_S.rf
  have hl := lv_entry ([.ref (E.2.1 147)]) (n := 3) (Nat.le_of_ble_eq_true rfl)
  rw [lg_entry_eq]
  generalize (lg_sl ([.ref (E.2.1 147)]) ++ List.replicate (3 - (lg_sl ([.ref (E.2.1 147)])).length) Slot.unset).toArray = ls at hl ⊢
  have hl : lv_has ls 3 [(0, .ref (E.2.1 147))] := hl
  unfold f_X12_worth at hf
  have kw0 := hts (.fieldLink RX12 59 "MilkTwiceModel" "things" "I") (List.mem_of_getElem? (i := 1) rfl)
  have kw1 := hts (.fieldLink RX12 22 "MilkTwiceModel" "stocked" "[I") (List.mem_of_getElem? (i := 2) rfl)
  have hinX12 : ∀ w ∈ u_ws RX12 TX12 29, w ∈ wsX12_worth := fun w h => List.mem_cons_of_mem _ (List.mem_append_right _ h)
  refine lv_iconst (v := 0) hx hb dX12_worth_0 (by decide) ?_
  refine lv_istore_n (lv' := [(1, .int (0 : Int32)), (0, .ref (E.2.1 147))]) hx hb dX12_worth_1 rfl hl (by decide) rfl (fun ls hl => ?_)
  refine lv_iconst (v := 0) hx hb dX12_worth_2 (by decide) ?_
  refine lv_istore_n (lv' := [(2, .int (0 : Int32)), (1, .int (0 : Int32)), (0, .ref (E.2.1 147))]) hx hb dX12_worth_3 rfl hl (by decide) rfl (fun ls hl => ?_)
  refine mt_lpI2 hf (fun (x1 : Int32) (x2 : Int32) => ∀ (H : Heap) (locs : List Loc) (ls : Array Slot), mt_H E M u H → va_S (mt_A E) s.heap H locs → lv_has ls 3 [(0, .ref (E.2.1 147)), (1, .int x1), (2, .int x2)] → W p l e (headSpec wsX12_worth ({ frames := 1, cells := 0, slots := 0, locals := 22 } : Room)).room s mid (([.ref (E.2.1 147)] : List Value).toArray) below meth c0 H locs 0 0 (MQ below (mt_Qi E r M u) (([.ref (E.2.1 147)] : List Value).toArray) s 0 0 (mt_A E)) (F0 mid 4 ls [])) ?_ _ _ _ hH hS (lv_sub hl [2, 1, 0] rfl)
  intro k3 ih4 x1 x2 hf H locs ls hH hS hl
  refine lv_iload_n hx hb dX12_worth_4 rfl (lv_at hl 2 rfl) ?_
  refine lv_aload_n hx hb dX12_worth_5 rfl (lv_at hl 0 rfl) ?_
  refine mt_geti (C := RX12) (T := TX12) (N := 29) hx hb hts hinX12 hown hI hH mt_T147 rfl 8 (by decide) kw0 rfl rfl dX12_worth_6 ?_
  refine lv_icmp_ge (tgt := 39) hx hb dX12_worth_9 (by decide) (fun c5 => ?_) (fun c5 => ?_)
  · have hf := mt_ifT c5 hf
    refine lv_iload_n hx hb dX12_worth_39 rfl (lv_at hl 1 rfl) ?_
    have i1 := mt_so1 hf
    subst i1
    exact mt_iret hx hb hr hI hH hS hlocks dX12_worth_40
  · have hf := mt_ifF c5 hf
    refine lv_iload_n hx hb dX12_worth_12 rfl (lv_at hl 1 rfl) ?_
    refine lv_aload_n hx hb dX12_worth_13 rfl (lv_at hl 0 rfl) ?_
    refine mt_getr (C := RX12) (T := TX12) (N := 29) hx hb hts hinX12 hown hI hH mt_T147 rfl 4 (by decide) kw1 rfl rfl dX12_worth_14 ?_
    refine lv_iload_n hx hb dX12_worth_17 rfl (lv_at hl 2 rfl) ?_
    refine mt_ciI hf (fun q6 hf => ?_)
    refine mt_iald hx hb hI hH mt_T152 q6 dX12_worth_18 ?_
    refine lv_aload_n hx hb dX12_worth_19 rfl (lv_at hl 0 rfl) ?_
    refine lv_iload_n hx hb dX12_worth_20 rfl (lv_at hl 2 rfl) ?_
    refine mt_b1I hf (fun r8 hg7 hf => ?_)
    refine mt_goi (mt_runV (i := 147) (As := [.int x2]) (rest := [.int (M 152 x2.toNatClampNeg), .int x1]) ⟨hx, hb, hml, hown, hts⟩ hI hH (c_X12_priceOf l E x2 M u _ hg7) (cwV 1 hts gX12_worth_X12_priceOf rfl rfl rfl (by decide +kernel) ⟨Nat.le_of_ble_eq_true rfl, Nat.le_of_ble_eq_true rfl⟩) mt_T147 rfl rfl hl.1 rfl (Nat.le_of_ble_eq_true rfl) dX12_worth_21 ⟨Nat.zero_le _, Nat.zero_le _⟩) hS (fun H locs hH hS => ?_)
    refine lv_imul hx hb dX12_worth_24 ?_
    refine lv_aload_n hx hb dX12_worth_25 rfl (lv_at hl 0 rfl) ?_
    refine lv_iload_n hx hb dX12_worth_26 rfl (lv_at hl 2 rfl) ?_
    refine mt_b1I hf (fun r10 hg9 hf => ?_)
    refine mt_goi (mt_runV (i := 147) (As := [.int x2]) (rest := [.int ((M 152 x2.toNatClampNeg) * r8), .int x1]) ⟨hx, hb, hml, hown, hts⟩ hI hH (c_X12_packOf l E x2 M u _ hg9) (cwV 1 hts gX12_worth_X12_packOf rfl rfl rfl (by decide +kernel) ⟨Nat.le_of_ble_eq_true rfl, Nat.le_of_ble_eq_true rfl⟩) mt_T147 rfl rfl hl.1 rfl (Nat.le_of_ble_eq_true rfl) dX12_worth_27 ⟨Nat.zero_le _, Nat.zero_le _⟩) hS (fun H locs hH hS => ?_)
    refine mt_ckI hf (fun q11 hf => ?_)
    refine lv_idiv hx hb dX12_worth_30 q11 ?_
    refine lv_iadd hx hb dX12_worth_31 ?_
    refine mt_lti hf (fun x12 ex12 hf => ?_)
    refine lv_istore_n (lv' := [(1, .int x12), (0, .ref (E.2.1 147)), (2, .int x2)]) hx hb dX12_worth_32 rfl hl (by decide) rfl (fun ls hl => ?_)
    refine mt_ltI hf (fun x13 ex13 hf => ?_)
    refine lv_iinc (v := x13) (lv' := [(2, .int x13), (1, .int x12), (0, .ref (E.2.1 147))]) hx hb dX12_worth_33 hl (k := 2) rfl (by rw [ex13]; rfl) (by decide) rfl (fun ls hl => ?_)
    refine lv_goto (tgt := 4) hx hb dX12_worth_36 (by decide) ?_
    exact ih4 x12 x13 hf _ _ _ hH hS (lv_sub hl [2, 1, 0] rfl)
set_option maxHeartbeats 4000000 in
set_option maxRecDepth 100000 in
theorem c_X12_biscuits (l : Launch) (E : mt_E) (a1 : Int32) (M : mt_M) (u : mt_U) (r : Int32) (M' : mt_M) (hf : f_X12_biscuits a1 M = some (r, M')) : Met l yX12_biscuits wsX12_biscuits ({ frames := 1, cells := 0, slots := 0, locals := 22 } : Room) (mt_P E [.ref (E.2.1 147), .int a1] M u) (mt_Qi E r M' u) 0 0 (mt_A E) := by
  refine Met.ofW (cc := cX12_biscuits) (maxL := 6) (ret := (some .int)) (by decide) rfl ?_
  intro p e s mid args below meth c0 s₁ B hml hv
  obtain ⟨rfl, hI, hH⟩ := hv
  have hx := B.exec
  have hb := B.bytes
  have hr := B.returns
  have hts := atoms_spec (ws := wsX12_biscuits) B.pre
  have hown : s.vm.findClass RX12 = some mid.cls := findClass_of_methodNamed B.named
  have hlocks := B.notSynchronized
  have hS : va_S (mt_A E) s.heap s.heap [] := va_S.rf
  have hl := lv_entry ([.ref (E.2.1 147), .int a1]) (n := 6) (Nat.le_of_ble_eq_true rfl)
  rw [lg_entry_eq]
  generalize (lg_sl ([.ref (E.2.1 147), .int a1]) ++ List.replicate (6 - (lg_sl ([.ref (E.2.1 147), .int a1])).length) Slot.unset).toArray = ls at hl ⊢
  have hl : lv_has ls 6 [(0, .ref (E.2.1 147)), (1, .int a1)] := hl
  unfold f_X12_biscuits at hf
  have kw0 := hts (.fieldLink RX12 285 "MilkTwiceModel" "rowMany" "I") (List.mem_of_getElem? (i := 2) rfl)
  have kw1 := hts (.fieldLink RX12 56 "MilkTwiceModel" "many" "[I") (List.mem_of_getElem? (i := 1) rfl)
  have kw2 := hts (.fieldLink RX12 53 "MilkTwiceModel" "row" "[I") (List.mem_of_getElem? (i := 3) rfl)
  have hinX12 : ∀ w ∈ u_ws RX12 TX12 29, w ∈ wsX12_biscuits := fun w h => List.mem_cons_of_mem _ (List.mem_append_right _ h)
  refine lv_iload_n hx hb dX12_biscuits_0 rfl (lv_at hl 1 rfl) ?_
  refine lv_iconst (v := 0) hx hb dX12_biscuits_1 (by decide) ?_
  refine lv_iconst (v := 1) hx hb dX12_biscuits_2 (by decide) ?_
  refine mt_b1I hf (fun r2 hg1 hf => ?_)
  refine mt_goi (mt_runS (As := [.int a1, .int (0 : Int32), .int (1 : Int32)]) (rest := []) ⟨hx, hb, hml, hown, hts⟩ hI hH (c_X12_isIn l E a1 (0 : Int32) (1 : Int32) M u _ hg1) (va_cwS 3 hts gX12_biscuits_X12_isIn rfl rfl rfl (by decide +kernel) ⟨Nat.le_of_ble_eq_true rfl, Nat.le_of_ble_eq_true rfl⟩) rfl hl.1 rfl (Nat.le_of_ble_eq_true rfl) dX12_biscuits_3 ⟨Nat.zero_le _, Nat.zero_le _⟩) hS (fun H locs hH hS => ?_)
  refine mt_jn1 hf (fun (v3 : Int32) => ∀ (H : Heap) (locs : List Loc) (ls : Array Slot), mt_H E M u H → va_S (mt_A E) s.heap H locs → lv_has ls 6 [(0, .ref (E.2.1 147)), (1, .int a1)] → W p l e (headSpec wsX12_biscuits ({ frames := 1, cells := 0, slots := 0, locals := 22 } : Room)).room s mid (([.ref (E.2.1 147), .int a1] : List Value).toArray) below meth c0 H locs 0 0 (MQ below (mt_Qi E r M' u) (([.ref (E.2.1 147), .int a1] : List Value).toArray) s 0 0 (mt_A E)) (F0 mid 15 ls [.int v3])) ?_ ?_
  · intro v3 hf H locs ls hH hS hl
    refine lv_istore_n (lv' := [(2, .int v3), (0, .ref (E.2.1 147)), (1, .int a1)]) hx hb dX12_biscuits_15 rfl hl (by decide) rfl (fun ls hl => ?_)
    refine lv_iconst (v := 0) hx hb dX12_biscuits_16 (by decide) ?_
    refine lv_istore_n (lv' := [(3, .int (0 : Int32)), (2, .int v3), (0, .ref (E.2.1 147)), (1, .int a1)]) hx hb dX12_biscuits_17 rfl hl (by decide) rfl (fun ls hl => ?_)
    refine mt_lpI2 hf (fun (x6 : Int32) (M7 : mt_M) => ∀ (H : Heap) (locs : List Loc) (ls : Array Slot), mt_H E M7 u H → va_S (mt_A E) s.heap H locs → lv_has ls 6 [(0, .ref (E.2.1 147)), (1, .int a1), (2, .int v3), (3, .int x6)] → W p l e (headSpec wsX12_biscuits ({ frames := 1, cells := 0, slots := 0, locals := 22 } : Room)).room s mid (([.ref (E.2.1 147), .int a1] : List Value).toArray) below meth c0 H locs 0 0 (MQ below (mt_Qi E r M' u) (([.ref (E.2.1 147), .int a1] : List Value).toArray) s 0 0 (mt_A E)) (F0 mid 18 ls [])) ?_ _ _ _ hH hS (lv_sub hl [2, 3, 1, 0] rfl)
    intro k8 ih9 x6 M7 hf H locs ls hH hS hl
    refine lv_iload_n hx hb dX12_biscuits_18 rfl (lv_at hl 3 rfl) ?_
    refine lv_bipush (v := 7) hx hb dX12_biscuits_19 (by decide) ?_
    refine lv_icmp_ge (tgt := 37) hx hb dX12_biscuits_21 (by decide) (fun c10 => ?_) (fun c10 => ?_)
    · have hf := mt_ifT c10 hf
      refine lv_iconst (v := 0) hx hb dX12_biscuits_37 (by decide) ?_
      refine lv_istore_n (lv' := [(3, .int (0 : Int32)), (0, .ref (E.2.1 147)), (1, .int a1), (2, .int v3)]) hx hb dX12_biscuits_38 rfl hl (by decide) rfl (fun ls hl => ?_)
      refine mt_lpI3 hf (fun (x11 : Int32) (x12 : Int32) (M13 : mt_M) => ∀ (H : Heap) (locs : List Loc) (ls : Array Slot), mt_H E M13 u H → va_S (mt_A E) s.heap H locs → lv_has ls 6 [(0, .ref (E.2.1 147)), (1, .int a1), (2, .int x11), (3, .int x12)] → W p l e (headSpec wsX12_biscuits ({ frames := 1, cells := 0, slots := 0, locals := 22 } : Room)).room s mid (([.ref (E.2.1 147), .int a1] : List Value).toArray) below meth c0 H locs 0 0 (MQ below (mt_Qi E r M' u) (([.ref (E.2.1 147), .int a1] : List Value).toArray) s 0 0 (mt_A E)) (F0 mid 39 ls [])) ?_ _ _ _ hH hS (lv_sub hl [1, 2, 3, 0] rfl)
      intro k14 ih15 x11 x12 M13 hf H locs ls hH hS hl
      refine lv_iload_n hx hb dX12_biscuits_39 rfl (lv_at hl 3 rfl) ?_
      refine lv_aload_n hx hb dX12_biscuits_40 rfl (lv_at hl 0 rfl) ?_
      refine mt_geti (C := RX12) (T := TX12) (N := 29) hx hb hts hinX12 hown hI hH mt_T147 rfl 27 (by decide) kw0 rfl rfl dX12_biscuits_41 ?_
      refine mt_jn0 hf (∀ (H : Heap) (locs : List Loc) (ls : Array Slot), mt_H E M13 u H → va_S (mt_A E) s.heap H locs → lv_has ls 6 [(0, .ref (E.2.1 147)), (1, .int a1), (2, .int x11)] → W p l e (headSpec wsX12_biscuits ({ frames := 1, cells := 0, slots := 0, locals := 22 } : Room)).room s mid (([.ref (E.2.1 147), .int a1] : List Value).toArray) below meth c0 H locs 0 0 (MQ below (mt_Qi E r M' u) (([.ref (E.2.1 147), .int a1] : List Value).toArray) s 0 0 (mt_A E)) (F0 mid 96 ls [])) ?_ ?_
      · intro hf H locs ls hH hS hl
        refine lv_iload_n hx hb dX12_biscuits_96 rfl (lv_at hl 2 rfl) ?_
        refine lv_if_eq (tgt := 106) hx hb dX12_biscuits_97 (by decide) (fun c18 => ?_) (fun c18 => ?_)
        · have hf := mt_ifT c18 hf
          refine lv_iconst (v := 0) hx hb dX12_biscuits_106 (by decide) ?_
          refine lv_istore_n (lv' := [(3, .int (0 : Int32)), (0, .ref (E.2.1 147)), (1, .int a1), (2, .int x11)]) hx hb dX12_biscuits_107 rfl hl (by decide) rfl (fun ls hl => ?_)
          refine lv_bipush (v := (-9)) hx hb dX12_biscuits_108 (by decide) ?_
          refine lv_istore (lv' := [(4, .int (-9 : Int32)), (3, .int (0 : Int32)), (0, .ref (E.2.1 147)), (1, .int a1), (2, .int x11)]) hx hb dX12_biscuits_110 hl (by decide) rfl (fun ls hl => ?_)
          refine lv_iconst (v := 0) hx hb dX12_biscuits_112 (by decide) ?_
          refine lv_istore (lv' := [(5, .int (0 : Int32)), (4, .int (-9 : Int32)), (3, .int (0 : Int32)), (0, .ref (E.2.1 147)), (1, .int a1), (2, .int x11)]) hx hb dX12_biscuits_113 hl (by decide) rfl (fun ls hl => ?_)
          refine mt_lpI3 hf (fun (x19 : Int32) (x20 : Int32) (x21 : Int32) => ∀ (H : Heap) (locs : List Loc) (ls : Array Slot), mt_H E M13 u H → va_S (mt_A E) s.heap H locs → lv_has ls 6 [(0, .ref (E.2.1 147)), (1, .int a1), (3, .int x19), (4, .int x20), (5, .int x21)] → W p l e (headSpec wsX12_biscuits ({ frames := 1, cells := 0, slots := 0, locals := 22 } : Room)).room s mid (([.ref (E.2.1 147), .int a1] : List Value).toArray) below meth c0 H locs 0 0 (MQ below (mt_Qi E r M' u) (([.ref (E.2.1 147), .int a1] : List Value).toArray) s 0 0 (mt_A E)) (F0 mid 115 ls [])) ?_ _ _ _ hH hS (lv_sub hl [3, 4, 2, 1, 0] rfl)
          intro k22 ih23 x19 x20 x21 hf H locs ls hH hS hl
          refine lv_iload hx hb dX12_biscuits_115 (lv_at hl 4 rfl) ?_
          refine lv_bipush (v := 7) hx hb dX12_biscuits_117 (by decide) ?_
          refine lv_icmp_ge (tgt := 181) hx hb dX12_biscuits_119 (by decide) (fun c24 => ?_) (fun c24 => ?_)
          · have hf := mt_ifT c24 hf
            refine lv_iload_n hx hb dX12_biscuits_181 rfl (lv_at hl 1 rfl) ?_
            refine lv_if_ne (tgt := 189) hx hb dX12_biscuits_182 (by decide) (fun c25 => ?_) (fun c25 => ?_)
            · have hf := mt_ifF c25 hf
              refine lv_iload hx hb dX12_biscuits_189 (lv_at hl 3 rfl) ?_
              obtain ⟨i1, i2⟩ := mt_so2 hf
              subst i1
              subst i2
              exact mt_iret hx hb hr hI hH hS hlocks dX12_biscuits_191
            · have hf := mt_ifT c25 hf
              refine lv_iload_n hx hb dX12_biscuits_185 rfl (lv_at hl 2 rfl) ?_
              refine lv_goto (tgt := 191) hx hb dX12_biscuits_186 (by decide) ?_
              obtain ⟨i1, i2⟩ := mt_so2 hf
              subst i1
              subst i2
              exact mt_iret hx hb hr hI hH hS hlocks dX12_biscuits_191
          · have hf := mt_ifF c24 hf
            refine lv_iload_n hx hb dX12_biscuits_122 rfl (lv_at hl 2 rfl) ?_
            refine lv_aload_n hx hb dX12_biscuits_123 rfl (lv_at hl 0 rfl) ?_
            refine mt_getr (C := RX12) (T := TX12) (N := 29) hx hb hts hinX12 hown hI hH mt_T147 rfl 28 (by decide) kw1 rfl rfl dX12_biscuits_124 ?_
            refine lv_iload hx hb dX12_biscuits_127 (lv_at hl 4 rfl) ?_
            refine mt_ciI hf (fun q26 hf => ?_)
            refine mt_iald hx hb hI hH mt_T163 q26 dX12_biscuits_129 ?_
            refine mt_jn1 hf (fun (v27 : Int32) => ∀ (H : Heap) (locs : List Loc) (ls : Array Slot), mt_H E M13 u H → va_S (mt_A E) s.heap H locs → lv_has ls 6 [(0, .ref (E.2.1 147)), (1, .int a1), (4, .int x20), (5, .int x21)] → W p l e (headSpec wsX12_biscuits ({ frames := 1, cells := 0, slots := 0, locals := 22 } : Room)).room s mid (([.ref (E.2.1 147), .int a1] : List Value).toArray) below meth c0 H locs 0 0 (MQ below (mt_Qi E r M' u) (([.ref (E.2.1 147), .int a1] : List Value).toArray) s 0 0 (mt_A E)) (F0 mid 138 ls [.int v27, .int x19])) ?_ ?_
            · intro v27 hf H locs ls hH hS hl
              refine lv_iadd hx hb dX12_biscuits_138 ?_
              refine mt_lti hf (fun x30 ex30 hf => ?_)
              refine lv_istore_n (lv' := [(3, .int x30), (0, .ref (E.2.1 147)), (1, .int a1), (4, .int x20), (5, .int x21)]) hx hb dX12_biscuits_139 rfl hl (by decide) rfl (fun ls hl => ?_)
              refine lv_aload_n hx hb dX12_biscuits_140 rfl (lv_at hl 1 rfl) ?_
              refine mt_getr (C := RX12) (T := TX12) (N := 29) hx hb hts hinX12 hown hI hH mt_T147 rfl 28 (by decide) kw1 rfl rfl dX12_biscuits_141 ?_
              refine lv_iload hx hb dX12_biscuits_144 (lv_at hl 4 rfl) ?_
              refine mt_ciI hf (fun q31 hf => ?_)
              refine mt_iald hx hb hI hH mt_T163 q31 dX12_biscuits_146 ?_
              refine lv_iload hx hb dX12_biscuits_147 (lv_at hl 3 rfl) ?_
              refine mt_jn1 hf (fun (v32 : Int32) => ∀ (H : Heap) (locs : List Loc) (ls : Array Slot), mt_H E M13 u H → va_S (mt_A E) s.heap H locs → lv_has ls 6 [(0, .ref (E.2.1 147)), (1, .int a1), (3, .int x30), (4, .int x20), (5, .int x21)] → W p l e (headSpec wsX12_biscuits ({ frames := 1, cells := 0, slots := 0, locals := 22 } : Room)).room s mid (([.ref (E.2.1 147), .int a1] : List Value).toArray) below meth c0 H locs 0 0 (MQ below (mt_Qi E r M' u) (([.ref (E.2.1 147), .int a1] : List Value).toArray) s 0 0 (mt_A E)) (F0 mid 163 ls [.int v32, .int (M13 163 x21.toNatClampNeg)])) ?_ ?_
              · intro v32 hf H locs ls hH hS hl
                refine mt_jn1 hf (fun (v35 : Int32) => ∀ (H : Heap) (locs : List Loc) (ls : Array Slot), mt_H E M13 u H → va_S (mt_A E) s.heap H locs → lv_has ls 6 [(0, .ref (E.2.1 147)), (1, .int a1), (3, .int x30), (5, .int x21)] → W p l e (headSpec wsX12_biscuits ({ frames := 1, cells := 0, slots := 0, locals := 22 } : Room)).room s mid (([.ref (E.2.1 147), .int a1] : List Value).toArray) below meth c0 H locs 0 0 (MQ below (mt_Qi E r M' u) (([.ref (E.2.1 147), .int a1] : List Value).toArray) s 0 0 (mt_A E)) (F0 mid 173 ls [.int v35])) ?_ ?_
                · intro v35 hf H locs ls hH hS hl
                  refine lv_istore (lv' := [(4, .int v35), (0, .ref (E.2.1 147)), (1, .int a1), (3, .int x30), (5, .int x21)]) hx hb dX12_biscuits_173 hl (by decide) rfl (fun ls hl => ?_)
                  refine mt_ltI hf (fun x38 ex38 hf => ?_)
                  refine lv_iinc (v := x38) (lv' := [(5, .int x38), (4, .int v35), (0, .ref (E.2.1 147)), (1, .int a1), (3, .int x30)]) hx hb dX12_biscuits_175 hl (k := 4) rfl (by rw [ex38]; rfl) (by decide) rfl (fun ls hl => ?_)
                  refine lv_goto (tgt := 115) hx hb dX12_biscuits_178 (by decide) ?_
                  exact ih23 x30 v35 x38 hf _ _ _ hH hS (lv_sub hl [2, 3, 4, 1, 0] rfl)
                · intro j36 hj37 hf
                  refine lv_icmp_le (tgt := 171) hx hb dX12_biscuits_163 (by decide) (fun c39 => ?_) (fun c39 => ?_)
                  · have hf := mt_ifT c39 hf
                    refine lv_iload hx hb dX12_biscuits_171 (lv_at hl 3 rfl) ?_
                    exact hj37 x20 hf _ _ _ hH hS (lv_sub hl [0, 1, 2, 4] rfl)
                  · have hf := mt_ifF c39 hf
                    refine lv_iload hx hb dX12_biscuits_166 (lv_at hl 4 rfl) ?_
                    refine lv_goto (tgt := 173) hx hb dX12_biscuits_168 (by decide) ?_
                    exact hj37 x21 hf _ _ _ hH hS (lv_sub hl [0, 1, 2, 4] rfl)
              · intro j33 hj34 hf
                refine lv_if_ge (tgt := 156) hx hb dX12_biscuits_149 (by decide) (fun c40 => ?_) (fun c40 => ?_)
                · have hf := mt_ifT c40 hf
                  refine lv_aload_n hx hb dX12_biscuits_156 rfl (lv_at hl 1 rfl) ?_
                  refine mt_getr (C := RX12) (T := TX12) (N := 29) hx hb hts hinX12 hown hI hH mt_T147 rfl 28 (by decide) kw1 rfl rfl dX12_biscuits_157 ?_
                  refine lv_iload hx hb dX12_biscuits_160 (lv_at hl 3 rfl) ?_
                  refine mt_ciI hf (fun q41 hf => ?_)
                  refine mt_iald hx hb hI hH mt_T163 q41 dX12_biscuits_162 ?_
                  exact hj34 (M13 163 x20.toNatClampNeg) hf _ _ _ hH hS (lv_sub hl [1, 2, 0, 3, 4] rfl)
                · have hf := mt_ifF c40 hf
                  refine lv_iconst (v := 0) hx hb dX12_biscuits_152 (by decide) ?_
                  refine lv_goto (tgt := 163) hx hb dX12_biscuits_153 (by decide) ?_
                  exact hj34 (0 : Int32) hf _ _ _ hH hS (lv_sub hl [1, 2, 0, 3, 4] rfl)
            · intro j28 hj29 hf
              refine lv_if_le (tgt := 137) hx hb dX12_biscuits_130 (by decide) (fun c42 => ?_) (fun c42 => ?_)
              · have hf := mt_ifT c42 hf
                refine lv_iconst (v := 0) hx hb dX12_biscuits_137 (by decide) ?_
                exact hj29 (0 : Int32) hf _ _ _ hH hS (lv_sub hl [0, 1, 3, 4] rfl)
              · have hf := mt_ifF c42 hf
                refine lv_iconst (v := 1) hx hb dX12_biscuits_133 (by decide) ?_
                refine lv_goto (tgt := 138) hx hb dX12_biscuits_134 (by decide) ?_
                exact hj29 (1 : Int32) hf _ _ _ hH hS (lv_sub hl [0, 1, 3, 4] rfl)
        · have hf := mt_ifF c18 hf
          refine lv_aload_n hx hb dX12_biscuits_100 rfl (lv_at hl 0 rfl) ?_
          refine lv_iload_n hx hb dX12_biscuits_101 rfl (lv_at hl 2 rfl) ?_
          refine mt_b2I hf (fun r44 M45 hg43 hf => ?_)
          refine mt_goi (mt_runV (i := 147) (As := [.int x11]) (rest := []) ⟨hx, hb, hml, hown, hts⟩ hI hH (c_X12_no l E x11 M13 u _ _ hg43) (cwV 1 hts gX12_biscuits_X12_no rfl rfl rfl (by decide +kernel) ⟨Nat.le_of_ble_eq_true rfl, Nat.le_of_ble_eq_true rfl⟩) mt_T147 rfl rfl hl.1 rfl (Nat.le_of_ble_eq_true rfl) dX12_biscuits_102 ⟨Nat.zero_le _, Nat.zero_le _⟩) hS (fun H locs hH hS => ?_)
          obtain ⟨i1, i2⟩ := mt_so2 hf
          subst i1
          subst i2
          exact mt_iret hx hb hr hI hH hS hlocks dX12_biscuits_105
      · intro j16 hj17 hf
        refine lv_icmp_ge (tgt := 96) hx hb dX12_biscuits_44 (by decide) (fun c46 => ?_) (fun c46 => ?_)
        · have hf := mt_ifT c46 hf
          exact hj17 hf _ _ _ hH hS (lv_sub hl [0, 1, 2] rfl)
        · have hf := mt_ifF c46 hf
          refine lv_iload_n hx hb dX12_biscuits_47 rfl (lv_at hl 2 rfl) ?_
          refine lv_if_ne (tgt := 96) hx hb dX12_biscuits_48 (by decide) (fun c47 => ?_) (fun c47 => ?_)
          · have hf := mt_ifF c47 hf
            exact hj17 hf _ _ _ hH hS (lv_sub hl [0, 1, 2] rfl)
          · have hf := mt_ifT c47 hf
            refine lv_aload_n hx hb dX12_biscuits_51 rfl (lv_at hl 0 rfl) ?_
            refine lv_aload_n hx hb dX12_biscuits_52 rfl (lv_at hl 0 rfl) ?_
            refine mt_getr (C := RX12) (T := TX12) (N := 29) hx hb hts hinX12 hown hI hH mt_T147 rfl 26 (by decide) kw2 rfl rfl dX12_biscuits_53 ?_
            refine lv_iload_n hx hb dX12_biscuits_56 rfl (lv_at hl 3 rfl) ?_
            refine mt_ciI hf (fun q48 hf => ?_)
            refine mt_iald hx hb hI hH mt_T162 q48 dX12_biscuits_57 ?_
            refine mt_b1I hf (fun r50 hg49 hf => ?_)
            refine mt_goi (mt_runV (i := 147) (As := [.int (M13 162 x12.toNatClampNeg)]) (rest := []) ⟨hx, hb, hml, hown, hts⟩ hI hH (c_X12_isThing l E (M13 162 x12.toNatClampNeg) M13 u _ hg49) (cwV 1 hts gX12_biscuits_X12_isThing rfl rfl rfl (by decide +kernel) ⟨Nat.le_of_ble_eq_true rfl, Nat.le_of_ble_eq_true rfl⟩) mt_T147 rfl rfl hl.1 rfl (Nat.le_of_ble_eq_true rfl) dX12_biscuits_58 ⟨Nat.zero_le _, Nat.zero_le _⟩) hS (fun H locs hH hS => ?_)
            refine mt_jn1 hf (fun (v51 : Int32) => ∀ (H : Heap) (locs : List Loc) (ls : Array Slot), mt_H E M13 u H → va_S (mt_A E) s.heap H locs → lv_has ls 6 [(0, .ref (E.2.1 147)), (1, .int a1), (3, .int x12)] → W p l e (headSpec wsX12_biscuits ({ frames := 1, cells := 0, slots := 0, locals := 22 } : Room)).room s mid (([.ref (E.2.1 147), .int a1] : List Value).toArray) below meth c0 H locs 0 0 (MQ below (mt_Qi E r M' u) (([.ref (E.2.1 147), .int a1] : List Value).toArray) s 0 0 (mt_A E)) (F0 mid 70 ls [.int v51])) ?_ ?_
            · intro v51 hf H locs ls hH hS hl
              refine lv_istore_n (lv' := [(2, .int v51), (0, .ref (E.2.1 147)), (1, .int a1), (3, .int x12)]) hx hb dX12_biscuits_70 rfl hl (by decide) rfl (fun ls hl => ?_)
              refine lv_iload_n hx hb dX12_biscuits_71 rfl (lv_at hl 0 rfl) ?_
              refine mt_jn1 hf (fun (M54 : mt_M) => ∀ (H : Heap) (locs : List Loc) (ls : Array Slot), mt_H E M54 u H → va_S (mt_A E) s.heap H locs → lv_has ls 6 [(0, .ref (E.2.1 147)), (1, .int a1), (2, .int v51), (3, .int x12)] → W p l e (headSpec wsX12_biscuits ({ frames := 1, cells := 0, slots := 0, locals := 22 } : Room)).room s mid (([.ref (E.2.1 147), .int a1] : List Value).toArray) below meth c0 H locs 0 0 (MQ below (mt_Qi E r M' u) (([.ref (E.2.1 147), .int a1] : List Value).toArray) s 0 0 (mt_A E)) (F0 mid 90 ls [])) ?_ ?_
              · intro M54 hf H locs ls hH hS hl
                refine mt_ltI hf (fun x57 ex57 hf => ?_)
                refine lv_iinc (v := x57) (lv' := [(3, .int x57), (0, .ref (E.2.1 147)), (1, .int a1), (2, .int v51)]) hx hb dX12_biscuits_90 hl (k := 3) rfl (by rw [ex57]; rfl) (by decide) rfl (fun ls hl => ?_)
                refine lv_goto (tgt := 39) hx hb dX12_biscuits_93 (by decide) ?_
                exact ih15 v51 x57 M54 hf _ _ _ hH hS (lv_sub hl [1, 2, 3, 0] rfl)
              · intro j55 hj56 hf
                refine lv_if_ne (tgt := 90) hx hb dX12_biscuits_72 (by decide) (fun c58 => ?_) (fun c58 => ?_)
                · have hf := mt_ifF c58 hf
                  exact hj56 M13 hf _ _ _ hH hS (lv_sub hl [1, 2, 0, 3] rfl)
                · have hf := mt_ifT c58 hf
                  refine lv_aload_n hx hb dX12_biscuits_75 rfl (lv_at hl 1 rfl) ?_
                  refine mt_getr (C := RX12) (T := TX12) (N := 29) hx hb hts hinX12 hown hI hH mt_T147 rfl 28 (by decide) kw1 rfl rfl dX12_biscuits_76 ?_
                  refine lv_aload_n hx hb dX12_biscuits_79 rfl (lv_at hl 1 rfl) ?_
                  refine mt_getr (C := RX12) (T := TX12) (N := 29) hx hb hts hinX12 hown hI hH mt_T147 rfl 26 (by decide) kw2 rfl rfl dX12_biscuits_80 ?_
                  refine lv_iload_n hx hb dX12_biscuits_83 rfl (lv_at hl 3 rfl) ?_
                  refine mt_ciI hf (fun q59 hf => ?_)
                  refine mt_iald hx hb hI hH mt_T162 q59 dX12_biscuits_84 ?_
                  refine lv_dup2_11 hx hb dX12_biscuits_85 rfl rfl ?_
                  refine mt_ciI hf (fun q60 hf => ?_)
                  refine mt_iald hx hb hI hH mt_T163 q60 dX12_biscuits_86 ?_
                  refine lv_iconst (v := 1) hx hb dX12_biscuits_87 (by decide) ?_
                  refine lv_iadd hx hb dX12_biscuits_88 ?_
                  refine mt_ciI hf (fun q62 hf => ?_)
                  refine mt_iast hx hb hI hH hS mt_T163 q62 dX12_biscuits_89 (fun H locs hH hS => ?_)
                  refine mt_ltI hf (fun M61 eM61 hf => ?_)
                  rw [← eM61] at hH
                  exact hj56 M61 hf _ _ _ hH hS (lv_sub hl [1, 2, 0, 3] rfl)
            · intro j52 hj53 hf
              refine lv_if_eq (tgt := 68) hx hb dX12_biscuits_61 (by decide) (fun c63 => ?_) (fun c63 => ?_)
              · have hf := mt_ifT c63 hf
                refine lv_bipush (v := (-3)) hx hb dX12_biscuits_68 (by decide) ?_
                exact hj53 (-3 : Int32) hf _ _ _ hH hS (lv_sub hl [0, 1, 3] rfl)
              · have hf := mt_ifF c63 hf
                refine lv_iconst (v := 0) hx hb dX12_biscuits_64 (by decide) ?_
                refine lv_goto (tgt := 70) hx hb dX12_biscuits_65 (by decide) ?_
                exact hj53 (0 : Int32) hf _ _ _ hH hS (lv_sub hl [0, 1, 3] rfl)
    · have hf := mt_ifF c10 hf
      refine lv_aload_n hx hb dX12_biscuits_24 rfl (lv_at hl 0 rfl) ?_
      refine mt_getr (C := RX12) (T := TX12) (N := 29) hx hb hts hinX12 hown hI hH mt_T147 rfl 28 (by decide) kw1 rfl rfl dX12_biscuits_25 ?_
      refine lv_iload_n hx hb dX12_biscuits_28 rfl (lv_at hl 3 rfl) ?_
      refine lv_iconst (v := 0) hx hb dX12_biscuits_29 (by decide) ?_
      refine mt_ciI hf (fun q65 hf => ?_)
      refine mt_iast hx hb hI hH hS mt_T163 q65 dX12_biscuits_30 (fun H locs hH hS => ?_)
      refine mt_ltI hf (fun M64 eM64 hf => ?_)
      rw [← eM64] at hH
      refine mt_ltI hf (fun x66 ex66 hf => ?_)
      refine lv_iinc (v := x66) (lv' := [(3, .int x66), (0, .ref (E.2.1 147)), (1, .int a1), (2, .int v3)]) hx hb dX12_biscuits_31 hl (k := 3) rfl (by rw [ex66]; rfl) (by decide) rfl (fun ls hl => ?_)
      refine lv_goto (tgt := 18) hx hb dX12_biscuits_34 (by decide) ?_
      exact ih9 x66 M64 hf _ _ _ hH hS (lv_sub hl [1, 2, 3, 0] rfl)
  · intro j4 hj5 hf
    refine lv_if_ne (tgt := 14) hx hb dX12_biscuits_6 (by decide) (fun c67 => ?_) (fun c67 => ?_)
    · have hf := mt_ifF c67 hf
      refine lv_iconst (v := 0) hx hb dX12_biscuits_14 (by decide) ?_
      exact hj5 (0 : Int32) hf _ _ _ hH hS (lv_sub hl [0, 1] rfl)
    · have hf := mt_ifT c67 hf
      refine lv_bipush (v := (-2)) hx hb dX12_biscuits_9 (by decide) ?_
      refine lv_goto (tgt := 15) hx hb dX12_biscuits_11 (by decide) ?_
      exact hj5 (-2 : Int32) hf _ _ _ hH hS (lv_sub hl [0, 1] rfl)
set_option maxHeartbeats 4000000 in
set_option maxRecDepth 100000 in
theorem c_X12_lacksOne (l : Launch) (E : mt_E)  (M : mt_M) (u : mt_U) (r : Int32) (hf : f_X12_lacksOne M = some (r)) : Met l yX12_lacksOne wsX12_lacksOne ({ frames := 0, cells := 0, slots := 0, locals := 0 } : Room) (mt_P E [.ref (E.2.1 147)] M u) (mt_Qi E r M u) 0 0 (mt_A E) := by
  refine Met.ofW (cc := cX12_lacksOne) (maxL := 3) (ret := (some .int)) (by decide) rfl ?_
  intro p e s mid args below meth c0 s₁ B hml hv
  obtain ⟨rfl, hI, hH⟩ := hv
  have hx := B.exec
  have hb := B.bytes
  have hr := B.returns
  have hts := atoms_spec (ws := wsX12_lacksOne) B.pre
  have hown : s.vm.findClass RX12 = some mid.cls := findClass_of_methodNamed B.named
  have hlocks := B.notSynchronized
  have hS : va_S (mt_A E) s.heap s.heap [] := va_S.rf
  have hl := lv_entry ([.ref (E.2.1 147)]) (n := 3) (Nat.le_of_ble_eq_true rfl)
  rw [lg_entry_eq]
  generalize (lg_sl ([.ref (E.2.1 147)]) ++ List.replicate (3 - (lg_sl ([.ref (E.2.1 147)])).length) Slot.unset).toArray = ls at hl ⊢
  have hl : lv_has ls 3 [(0, .ref (E.2.1 147))] := hl
  unfold f_X12_lacksOne at hf
  have kw0 := hts (.fieldLink RX12 59 "MilkTwiceModel" "things" "I") (List.mem_of_getElem? (i := 1) rfl)
  have kw1 := hts (.fieldLink RX12 22 "MilkTwiceModel" "stocked" "[I") (List.mem_of_getElem? (i := 2) rfl)
  have kw2 := hts (.fieldLink RX12 19 "MilkTwiceModel" "use" "[I") (List.mem_of_getElem? (i := 3) rfl)
  have hinX12 : ∀ w ∈ u_ws RX12 TX12 29, w ∈ wsX12_lacksOne := fun w h => List.mem_cons_of_mem _ (List.mem_append_right _ h)
  refine lv_iconst (v := 0) hx hb dX12_lacksOne_0 (by decide) ?_
  refine lv_istore_n (lv' := [(1, .int (0 : Int32)), (0, .ref (E.2.1 147))]) hx hb dX12_lacksOne_1 rfl hl (by decide) rfl (fun ls hl => ?_)
  refine lv_iconst (v := 0) hx hb dX12_lacksOne_2 (by decide) ?_
  refine lv_istore_n (lv' := [(2, .int (0 : Int32)), (1, .int (0 : Int32)), (0, .ref (E.2.1 147))]) hx hb dX12_lacksOne_3 rfl hl (by decide) rfl (fun ls hl => ?_)
  refine mt_lpI2 hf (fun (x1 : Int32) (x2 : Int32) => ∀ (H : Heap) (locs : List Loc) (ls : Array Slot), mt_H E M u H → va_S (mt_A E) s.heap H locs → lv_has ls 3 [(0, .ref (E.2.1 147)), (1, .int x1), (2, .int x2)] → W p l e (headSpec wsX12_lacksOne ({ frames := 0, cells := 0, slots := 0, locals := 0 } : Room)).room s mid (([.ref (E.2.1 147)] : List Value).toArray) below meth c0 H locs 0 0 (MQ below (mt_Qi E r M u) (([.ref (E.2.1 147)] : List Value).toArray) s 0 0 (mt_A E)) (F0 mid 4 ls [])) ?_ _ _ _ hH hS (lv_sub hl [2, 1, 0] rfl)
  intro k3 ih4 x1 x2 hf H locs ls hH hS hl
  refine lv_iload_n hx hb dX12_lacksOne_4 rfl (lv_at hl 2 rfl) ?_
  refine lv_aload_n hx hb dX12_lacksOne_5 rfl (lv_at hl 0 rfl) ?_
  refine mt_geti (C := RX12) (T := TX12) (N := 29) hx hb hts hinX12 hown hI hH mt_T147 rfl 8 (by decide) kw0 rfl rfl dX12_lacksOne_6 ?_
  refine lv_icmp_ge (tgt := 41) hx hb dX12_lacksOne_9 (by decide) (fun c5 => ?_) (fun c5 => ?_)
  · have hf := mt_ifT c5 hf
    refine lv_iload_n hx hb dX12_lacksOne_41 rfl (lv_at hl 1 rfl) ?_
    have i1 := mt_so1 hf
    subst i1
    exact mt_iret hx hb hr hI hH hS hlocks dX12_lacksOne_42
  · have hf := mt_ifF c5 hf
    refine lv_iload_n hx hb dX12_lacksOne_12 rfl (lv_at hl 1 rfl) ?_
    refine lv_aload_n hx hb dX12_lacksOne_13 rfl (lv_at hl 0 rfl) ?_
    refine mt_getr (C := RX12) (T := TX12) (N := 29) hx hb hts hinX12 hown hI hH mt_T147 rfl 4 (by decide) kw1 rfl rfl dX12_lacksOne_14 ?_
    refine lv_iload_n hx hb dX12_lacksOne_17 rfl (lv_at hl 2 rfl) ?_
    refine mt_ciI hf (fun q6 hf => ?_)
    refine mt_iald hx hb hI hH mt_T152 q6 dX12_lacksOne_18 ?_
    refine lv_aload_n hx hb dX12_lacksOne_19 rfl (lv_at hl 0 rfl) ?_
    refine mt_getr (C := RX12) (T := TX12) (N := 29) hx hb hts hinX12 hown hI hH mt_T147 rfl 3 (by decide) kw2 rfl rfl dX12_lacksOne_20 ?_
    refine lv_iload_n hx hb dX12_lacksOne_23 rfl (lv_at hl 2 rfl) ?_
    refine mt_ciI hf (fun q7 hf => ?_)
    refine mt_iald hx hb hI hH mt_T151 q7 dX12_lacksOne_24 ?_
    refine mt_jn1 hf (fun (v8 : Int32) => ∀ (H : Heap) (locs : List Loc) (ls : Array Slot), mt_H E M u H → va_S (mt_A E) s.heap H locs → lv_has ls 3 [(0, .ref (E.2.1 147)), (2, .int x2)] → W p l e (headSpec wsX12_lacksOne ({ frames := 0, cells := 0, slots := 0, locals := 0 } : Room)).room s mid (([.ref (E.2.1 147)] : List Value).toArray) below meth c0 H locs 0 0 (MQ below (mt_Qi E r M u) (([.ref (E.2.1 147)] : List Value).toArray) s 0 0 (mt_A E)) (F0 mid 33 ls [.int v8, .int x1])) ?_ ?_
    · intro v8 hf H locs ls hH hS hl
      refine lv_iadd hx hb dX12_lacksOne_33 ?_
      refine mt_lti hf (fun x11 ex11 hf => ?_)
      refine lv_istore_n (lv' := [(1, .int x11), (0, .ref (E.2.1 147)), (2, .int x2)]) hx hb dX12_lacksOne_34 rfl hl (by decide) rfl (fun ls hl => ?_)
      refine mt_ltI hf (fun x12 ex12 hf => ?_)
      refine lv_iinc (v := x12) (lv' := [(2, .int x12), (1, .int x11), (0, .ref (E.2.1 147))]) hx hb dX12_lacksOne_35 hl (k := 2) rfl (by rw [ex12]; rfl) (by decide) rfl (fun ls hl => ?_)
      refine lv_goto (tgt := 4) hx hb dX12_lacksOne_38 (by decide) ?_
      exact ih4 x11 x12 hf _ _ _ hH hS (lv_sub hl [2, 1, 0] rfl)
    · intro j9 hj10 hf
      refine lv_icmp_ge (tgt := 32) hx hb dX12_lacksOne_25 (by decide) (fun c13 => ?_) (fun c13 => ?_)
      · have hf := mt_ifT c13 hf
        refine lv_iconst (v := 0) hx hb dX12_lacksOne_32 (by decide) ?_
        exact hj10 (0 : Int32) hf _ _ _ hH hS (lv_sub hl [0, 2] rfl)
      · have hf := mt_ifF c13 hf
        refine lv_iconst (v := 1) hx hb dX12_lacksOne_28 (by decide) ?_
        refine lv_goto (tgt := 33) hx hb dX12_lacksOne_29 (by decide) ?_
        exact hj10 (1 : Int32) hf _ _ _ hH hS (lv_sub hl [0, 2] rfl)
set_option maxHeartbeats 4000000 in
set_option maxRecDepth 100000 in
theorem c_X12_lasts (l : Launch) (E : mt_E) (a1 : Int32) (M : mt_M) (u : mt_U) (r : Int32) (M' : mt_M) (hf : f_X12_lasts a1 M = some (r, M')) : Met l yX12_lasts wsX12_lasts ({ frames := 3, cells := 0, slots := 0, locals := 67 } : Room) (mt_P E [.ref (E.2.1 147), .int a1] M u) (mt_Qi E r M' u) 0 0 (mt_A E) := by
  refine Met.ofW (cc := cX12_lasts) (maxL := 5) (ret := (some .int)) (by decide) rfl ?_
  intro p e s mid args below meth c0 s₁ B hml hv
  obtain ⟨rfl, hI, hH⟩ := hv
  have hx := B.exec
  have hb := B.bytes
  have hr := B.returns
  have hts := atoms_spec (ws := wsX12_lasts) B.pre
  have hown : s.vm.findClass RX12 = some mid.cls := findClass_of_methodNamed B.named
  have hlocks := B.notSynchronized
  have hS : va_S (mt_A E) s.heap s.heap [] := va_S.rf
  have hl := lv_entry ([.ref (E.2.1 147), .int a1]) (n := 5) (Nat.le_of_ble_eq_true rfl)
  rw [lg_entry_eq]
  generalize (lg_sl ([.ref (E.2.1 147), .int a1]) ++ List.replicate (5 - (lg_sl ([.ref (E.2.1 147), .int a1])).length) Slot.unset).toArray = ls at hl ⊢
  have hl : lv_has ls 5 [(0, .ref (E.2.1 147)), (1, .int a1)] := hl
  unfold f_X12_lasts at hf
  refine lv_iload_n hx hb dX12_lasts_0 rfl (lv_at hl 1 rfl) ?_
  refine lv_iconst (v := 1) hx hb dX12_lasts_1 (by decide) ?_
  refine lv_bipush (v := 7) hx hb dX12_lasts_2 (by decide) ?_
  refine mt_b1I hf (fun r2 hg1 hf => ?_)
  refine mt_goi (mt_runS (As := [.int a1, .int (1 : Int32), .int (7 : Int32)]) (rest := []) ⟨hx, hb, hml, hown, hts⟩ hI hH (c_X12_bound l E a1 (1 : Int32) (7 : Int32) M u _ hg1) (va_cwS 3 hts gX12_lasts_X12_bound rfl rfl rfl (by decide +kernel) ⟨Nat.le_of_ble_eq_true rfl, Nat.le_of_ble_eq_true rfl⟩) rfl hl.1 rfl (Nat.le_of_ble_eq_true rfl) dX12_lasts_4 ⟨Nat.zero_le _, Nat.zero_le _⟩) hS (fun H locs hH hS => ?_)
  refine lv_istore_n (lv' := [(2, .int r2), (0, .ref (E.2.1 147)), (1, .int a1)]) hx hb dX12_lasts_7 rfl hl (by decide) rfl (fun ls hl => ?_)
  refine lv_iload_n hx hb dX12_lasts_8 rfl (lv_at hl 0 rfl) ?_
  refine lv_if_eq (tgt := 18) hx hb dX12_lasts_9 (by decide) (fun c3 => ?_) (fun c3 => ?_)
  · have hf := mt_ifT c3 hf
    refine lv_aload_n hx hb dX12_lasts_18 rfl (lv_at hl 1 rfl) ?_
    refine mt_b1I hf (fun M5 hg4 hf => ?_)
    refine mt_gov (mt_runV (i := 147) (As := []) (rest := []) ⟨hx, hb, hml, hown, hts⟩ hI hH (c_X12_thinks l E M u _ hg4) (cwV 0 hts gX12_lasts_X12_thinks rfl rfl rfl (by decide +kernel) ⟨Nat.le_of_ble_eq_true rfl, Nat.le_of_ble_eq_true rfl⟩) mt_T147 rfl rfl hl.1 rfl (Nat.le_of_ble_eq_true rfl) dX12_lasts_19 ⟨Nat.zero_le _, Nat.zero_le _⟩) hS (fun H locs hH hS => ?_)
    refine lv_bipush (v := (-9)) hx hb dX12_lasts_22 (by decide) ?_
    refine lv_istore_n (lv' := [(3, .int (-9 : Int32)), (2, .int r2), (0, .ref (E.2.1 147)), (1, .int a1)]) hx hb dX12_lasts_24 rfl hl (by decide) rfl (fun ls hl => ?_)
    refine lv_iconst (v := 1) hx hb dX12_lasts_25 (by decide) ?_
    refine lv_istore (lv' := [(4, .int (1 : Int32)), (3, .int (-9 : Int32)), (2, .int r2), (0, .ref (E.2.1 147)), (1, .int a1)]) hx hb dX12_lasts_26 hl (by decide) rfl (fun ls hl => ?_)
    refine mt_lpI3 hf (fun (x6 : Int32) (x7 : Int32) (M8 : mt_M) => ∀ (H : Heap) (locs : List Loc) (ls : Array Slot), mt_H E M8 u H → va_S (mt_A E) s.heap H locs → lv_has ls 5 [(0, .ref (E.2.1 147)), (1, .int a1), (3, .int x6), (4, .int x7)] → W p l e (headSpec wsX12_lasts ({ frames := 3, cells := 0, slots := 0, locals := 67 } : Room)).room s mid (([.ref (E.2.1 147), .int a1] : List Value).toArray) below meth c0 H locs 0 0 (MQ below (mt_Qi E r M' u) (([.ref (E.2.1 147), .int a1] : List Value).toArray) s 0 0 (mt_A E)) (F0 mid 28 ls [])) ?_ _ _ _ hH hS (lv_sub hl [3, 4, 1, 0] rfl)
    intro k9 ih10 x6 x7 M8 hf H locs ls hH hS hl
    refine lv_iload hx hb dX12_lasts_28 (lv_at hl 3 rfl) ?_
    refine lv_bipush (v := 60) hx hb dX12_lasts_30 (by decide) ?_
    refine mt_jn0 hf (∀ (H : Heap) (locs : List Loc) (ls : Array Slot), mt_H E M8 u H → va_S (mt_A E) s.heap H locs → lv_has ls 5 [(0, .ref (E.2.1 147)), (3, .int x6)] → W p l e (headSpec wsX12_lasts ({ frames := 3, cells := 0, slots := 0, locals := 67 } : Room)).room s mid (([.ref (E.2.1 147), .int a1] : List Value).toArray) below meth c0 H locs 0 0 (MQ below (mt_Qi E r M' u) (([.ref (E.2.1 147), .int a1] : List Value).toArray) s 0 0 (mt_A E)) (F0 mid 66 ls [])) ?_ ?_
    · intro hf H locs ls hH hS hl
      refine lv_aload_n hx hb dX12_lasts_66 rfl (lv_at hl 0 rfl) ?_
      refine mt_b1I hf (fun M14 hg13 hf => ?_)
      refine mt_gov (mt_runV (i := 147) (As := []) (rest := []) ⟨hx, hb, hml, hown, hts⟩ hI hH (c_X12_forgets l E M8 u _ hg13) (cwV 0 hts gX12_lasts_X12_forgets rfl rfl rfl (by decide +kernel) ⟨Nat.le_of_ble_eq_true rfl, Nat.le_of_ble_eq_true rfl⟩) mt_T147 rfl rfl hl.1 rfl (Nat.le_of_ble_eq_true rfl) dX12_lasts_67 ⟨Nat.zero_le _, Nat.zero_le _⟩) hS (fun H locs hH hS => ?_)
      refine lv_iload_n hx hb dX12_lasts_70 rfl (lv_at hl 1 rfl) ?_
      obtain ⟨i1, i2⟩ := mt_so2 hf
      subst i1
      subst i2
      exact mt_iret hx hb hr hI hH hS hlocks dX12_lasts_71
    · intro j11 hj12 hf
      refine lv_icmp_gt (tgt := 66) hx hb dX12_lasts_32 (by decide) (fun c15 => ?_) (fun c15 => ?_)
      · have hf := mt_ifT c15 hf
        exact hj12 hf _ _ _ hH hS (lv_sub hl [0, 2] rfl)
      · have hf := mt_ifF c15 hf
        refine lv_iload_n hx hb dX12_lasts_35 rfl (lv_at hl 2 rfl) ?_
        refine lv_if_ge (tgt := 66) hx hb dX12_lasts_36 (by decide) (fun c16 => ?_) (fun c16 => ?_)
        · have hf := mt_ifT c16 hf
          exact hj12 hf _ _ _ hH hS (lv_sub hl [0, 2] rfl)
        · have hf := mt_ifF c16 hf
          refine lv_aload_n hx hb dX12_lasts_39 rfl (lv_at hl 0 rfl) ?_
          refine mt_b1I hf (fun r18 hg17 hf => ?_)
          refine mt_goi (mt_runV (i := 147) (As := []) (rest := []) ⟨hx, hb, hml, hown, hts⟩ hI hH (c_X12_lacksOne l E M8 u _ hg17) (cwV 0 hts gX12_lasts_X12_lacksOne rfl rfl rfl (by decide +kernel) ⟨Nat.le_of_ble_eq_true rfl, Nat.le_of_ble_eq_true rfl⟩) mt_T147 rfl rfl hl.1 rfl (Nat.le_of_ble_eq_true rfl) dX12_lasts_40 ⟨Nat.zero_le _, Nat.zero_le _⟩) hS (fun H locs hH hS => ?_)
          refine lv_iload_n hx hb dX12_lasts_43 rfl (lv_at hl 1 rfl) ?_
          refine mt_jn1 hf (fun (v19 : Int32) => ∀ (H : Heap) (locs : List Loc) (ls : Array Slot), mt_H E M8 u H → va_S (mt_A E) s.heap H locs → lv_has ls 5 [(0, .ref (E.2.1 147)), (1, .int a1), (4, .int x7)] → W p l e (headSpec wsX12_lasts ({ frames := 3, cells := 0, slots := 0, locals := 67 } : Room)).room s mid (([.ref (E.2.1 147), .int a1] : List Value).toArray) below meth c0 H locs 0 0 (MQ below (mt_Qi E r M' u) (([.ref (E.2.1 147), .int a1] : List Value).toArray) s 0 0 (mt_A E)) (F0 mid 54 ls [.int v19])) ?_ ?_
          · intro v19 hf H locs ls hH hS hl
            refine lv_istore_n (lv' := [(3, .int v19), (0, .ref (E.2.1 147)), (1, .int a1), (4, .int x7)]) hx hb dX12_lasts_54 rfl hl (by decide) rfl (fun ls hl => ?_)
            refine lv_aload_n hx hb dX12_lasts_55 rfl (lv_at hl 1 rfl) ?_
            refine mt_b2I hf (fun r23 M24 hg22 hf => ?_)
            refine mt_goi (mt_runV (i := 147) (As := []) (rest := []) ⟨hx, hb, hml, hown, hts⟩ hI hH (c_X12_goesDay l E M8 u _ _ hg22) (cwV 0 hts gX12_lasts_X12_goesDay rfl rfl rfl (by decide +kernel) ⟨Nat.le_of_ble_eq_true rfl, Nat.le_of_ble_eq_true rfl⟩) mt_T147 rfl rfl hl.1 rfl (Nat.le_of_ble_eq_true rfl) dX12_lasts_56 ⟨Nat.zero_le _, Nat.zero_le _⟩) hS (fun H locs hH hS => ?_)
            refine lv_pop hx hb dX12_lasts_59 rfl ?_
            refine mt_ltI hf (fun x25 ex25 hf => ?_)
            refine lv_iinc (v := x25) (lv' := [(4, .int x25), (3, .int v19), (0, .ref (E.2.1 147)), (1, .int a1)]) hx hb dX12_lasts_60 hl (k := 3) rfl (by rw [ex25]; rfl) (by decide) rfl (fun ls hl => ?_)
            refine lv_goto (tgt := 28) hx hb dX12_lasts_63 (by decide) ?_
            exact ih10 v19 x25 M24 hf _ _ _ hH hS (lv_sub hl [2, 3, 1, 0] rfl)
          · intro j20 hj21 hf
            refine lv_icmp_lt (tgt := 52) hx hb dX12_lasts_44 (by decide) (fun c26 => ?_) (fun c26 => ?_)
            · have hf := mt_ifT c26 hf
              refine lv_bipush (v := (-9)) hx hb dX12_lasts_52 (by decide) ?_
              exact hj21 (-9 : Int32) hf _ _ _ hH hS (lv_sub hl [0, 1, 3] rfl)
            · have hf := mt_ifF c26 hf
              refine lv_iload hx hb dX12_lasts_47 (lv_at hl 3 rfl) ?_
              refine lv_goto (tgt := 54) hx hb dX12_lasts_49 (by decide) ?_
              exact hj21 x7 hf _ _ _ hH hS (lv_sub hl [0, 1, 3] rfl)
  · have hf := mt_ifF c3 hf
    refine lv_aload_n hx hb dX12_lasts_12 rfl (lv_at hl 1 rfl) ?_
    refine lv_iload_n hx hb dX12_lasts_13 rfl (lv_at hl 0 rfl) ?_
    refine mt_b2I hf (fun r28 M29 hg27 hf => ?_)
    refine mt_goi (mt_runV (i := 147) (As := [.int r2]) (rest := []) ⟨hx, hb, hml, hown, hts⟩ hI hH (c_X12_no l E r2 M u _ _ hg27) (cwV 1 hts gX12_lasts_X12_no rfl rfl rfl (by decide +kernel) ⟨Nat.le_of_ble_eq_true rfl, Nat.le_of_ble_eq_true rfl⟩) mt_T147 rfl rfl hl.1 rfl (Nat.le_of_ble_eq_true rfl) dX12_lasts_14 ⟨Nat.zero_le _, Nat.zero_le _⟩) hS (fun H locs hH hS => ?_)
    obtain ⟨i1, i2⟩ := mt_so2 hf
    subst i1
    subst i2
    exact mt_iret hx hb hr hI hH hS hlocks dX12_lasts_17
set_option maxHeartbeats 4000000 in
set_option maxRecDepth 100000 in
theorem c_X12_weekly (l : Launch) (E : mt_E)  (M : mt_M) (u : mt_U) (r : Int32) (hf : f_X12_weekly M = some (r)) : Met l yX12_weekly wsX12_weekly ({ frames := 1, cells := 0, slots := 0, locals := 22 } : Room) (mt_P E [.ref (E.2.1 147)] M u) (mt_Qi E r M u) 0 0 (mt_A E) := by
  refine Met.ofW (cc := cX12_weekly) (maxL := 3) (ret := (some .int)) (by decide) rfl ?_
  intro p e s mid args below meth c0 s₁ B hml hv
  obtain ⟨rfl, hI, hH⟩ := hv
  have hx := B.exec
  have hb := B.bytes
  have hr := B.returns
  have hts := atoms_spec (ws := wsX12_weekly) B.pre
  have hown : s.vm.findClass RX12 = some mid.cls := findClass_of_methodNamed B.named
  have hlocks := B.notSynchronized
  have hS : va_S (mt_A E) s.heap s.heap [] := va_S.rf
  have hl := lv_entry ([.ref (E.2.1 147)]) (n := 3) (Nat.le_of_ble_eq_true rfl)
  rw [lg_entry_eq]
  generalize (lg_sl ([.ref (E.2.1 147)]) ++ List.replicate (3 - (lg_sl ([.ref (E.2.1 147)])).length) Slot.unset).toArray = ls at hl ⊢
  have hl : lv_has ls 3 [(0, .ref (E.2.1 147))] := hl
  unfold f_X12_weekly at hf
  have kw0 := hts (.fieldLink RX12 59 "MilkTwiceModel" "things" "I") (List.mem_of_getElem? (i := 1) rfl)
  have kw1 := hts (.fieldLink RX12 19 "MilkTwiceModel" "use" "[I") (List.mem_of_getElem? (i := 2) rfl)
  have hinX12 : ∀ w ∈ u_ws RX12 TX12 29, w ∈ wsX12_weekly := fun w h => List.mem_cons_of_mem _ (List.mem_append_right _ h)
  refine lv_iconst (v := 0) hx hb dX12_weekly_0 (by decide) ?_
  refine lv_istore_n (lv' := [(1, .int (0 : Int32)), (0, .ref (E.2.1 147))]) hx hb dX12_weekly_1 rfl hl (by decide) rfl (fun ls hl => ?_)
  refine lv_iconst (v := 0) hx hb dX12_weekly_2 (by decide) ?_
  refine lv_istore_n (lv' := [(2, .int (0 : Int32)), (1, .int (0 : Int32)), (0, .ref (E.2.1 147))]) hx hb dX12_weekly_3 rfl hl (by decide) rfl (fun ls hl => ?_)
  refine mt_lpI2 hf (fun (x1 : Int32) (x2 : Int32) => ∀ (H : Heap) (locs : List Loc) (ls : Array Slot), mt_H E M u H → va_S (mt_A E) s.heap H locs → lv_has ls 3 [(0, .ref (E.2.1 147)), (1, .int x1), (2, .int x2)] → W p l e (headSpec wsX12_weekly ({ frames := 1, cells := 0, slots := 0, locals := 22 } : Room)).room s mid (([.ref (E.2.1 147)] : List Value).toArray) below meth c0 H locs 0 0 (MQ below (mt_Qi E r M u) (([.ref (E.2.1 147)] : List Value).toArray) s 0 0 (mt_A E)) (F0 mid 4 ls [])) ?_ _ _ _ hH hS (lv_sub hl [2, 1, 0] rfl)
  intro k3 ih4 x1 x2 hf H locs ls hH hS hl
  refine lv_iload_n hx hb dX12_weekly_4 rfl (lv_at hl 2 rfl) ?_
  refine lv_aload_n hx hb dX12_weekly_5 rfl (lv_at hl 0 rfl) ?_
  refine mt_geti (C := RX12) (T := TX12) (N := 29) hx hb hts hinX12 hown hI hH mt_T147 rfl 8 (by decide) kw0 rfl rfl dX12_weekly_6 ?_
  refine lv_icmp_ge (tgt := 50) hx hb dX12_weekly_9 (by decide) (fun c5 => ?_) (fun c5 => ?_)
  · have hf := mt_ifT c5 hf
    refine lv_iload_n hx hb dX12_weekly_50 rfl (lv_at hl 1 rfl) ?_
    have i1 := mt_so1 hf
    subst i1
    exact mt_iret hx hb hr hI hH hS hlocks dX12_weekly_51
  · have hf := mt_ifF c5 hf
    refine lv_iload_n hx hb dX12_weekly_12 rfl (lv_at hl 1 rfl) ?_
    refine lv_bipush (v := 7) hx hb dX12_weekly_13 (by decide) ?_
    refine lv_aload_n hx hb dX12_weekly_15 rfl (lv_at hl 0 rfl) ?_
    refine mt_getr (C := RX12) (T := TX12) (N := 29) hx hb hts hinX12 hown hI hH mt_T147 rfl 3 (by decide) kw1 rfl rfl dX12_weekly_16 ?_
    refine lv_iload_n hx hb dX12_weekly_19 rfl (lv_at hl 2 rfl) ?_
    refine mt_ciI hf (fun q6 hf => ?_)
    refine mt_iald hx hb hI hH mt_T151 q6 dX12_weekly_20 ?_
    refine lv_imul hx hb dX12_weekly_21 ?_
    refine lv_aload_n hx hb dX12_weekly_22 rfl (lv_at hl 0 rfl) ?_
    refine lv_iload_n hx hb dX12_weekly_23 rfl (lv_at hl 2 rfl) ?_
    refine mt_b1I hf (fun r8 hg7 hf => ?_)
    refine mt_goi (mt_runV (i := 147) (As := [.int x2]) (rest := [.int ((7 : Int32) * (M 151 x2.toNatClampNeg)), .int x1]) ⟨hx, hb, hml, hown, hts⟩ hI hH (c_X12_packOf l E x2 M u _ hg7) (cwV 1 hts gX12_weekly_X12_packOf rfl rfl rfl (by decide +kernel) ⟨Nat.le_of_ble_eq_true rfl, Nat.le_of_ble_eq_true rfl⟩) mt_T147 rfl rfl hl.1 rfl (Nat.le_of_ble_eq_true rfl) dX12_weekly_24 ⟨Nat.zero_le _, Nat.zero_le _⟩) hS (fun H locs hH hS => ?_)
    refine lv_iadd hx hb dX12_weekly_27 ?_
    refine lv_iconst (v := 1) hx hb dX12_weekly_28 (by decide) ?_
    refine lv_isub hx hb dX12_weekly_29 ?_
    refine lv_aload_n hx hb dX12_weekly_30 rfl (lv_at hl 0 rfl) ?_
    refine lv_iload_n hx hb dX12_weekly_31 rfl (lv_at hl 2 rfl) ?_
    refine mt_b1I hf (fun r10 hg9 hf => ?_)
    refine mt_goi (mt_runV (i := 147) (As := [.int x2]) (rest := [.int ((((7 : Int32) * (M 151 x2.toNatClampNeg)) + r8) - (1 : Int32)), .int x1]) ⟨hx, hb, hml, hown, hts⟩ hI hH (c_X12_packOf l E x2 M u _ hg9) (cwV 1 hts gX12_weekly_X12_packOf rfl rfl rfl (by decide +kernel) ⟨Nat.le_of_ble_eq_true rfl, Nat.le_of_ble_eq_true rfl⟩) mt_T147 rfl rfl hl.1 rfl (Nat.le_of_ble_eq_true rfl) dX12_weekly_32 ⟨Nat.zero_le _, Nat.zero_le _⟩) hS (fun H locs hH hS => ?_)
    refine mt_ckI hf (fun q11 hf => ?_)
    refine lv_idiv hx hb dX12_weekly_35 q11 ?_
    refine lv_aload_n hx hb dX12_weekly_36 rfl (lv_at hl 0 rfl) ?_
    refine lv_iload_n hx hb dX12_weekly_37 rfl (lv_at hl 2 rfl) ?_
    refine mt_b1I hf (fun r13 hg12 hf => ?_)
    refine mt_goi (mt_runV (i := 147) (As := [.int x2]) (rest := [.int (((((7 : Int32) * (M 151 x2.toNatClampNeg)) + r8) - (1 : Int32)) / r10), .int x1]) ⟨hx, hb, hml, hown, hts⟩ hI hH (c_X12_priceOf l E x2 M u _ hg12) (cwV 1 hts gX12_weekly_X12_priceOf rfl rfl rfl (by decide +kernel) ⟨Nat.le_of_ble_eq_true rfl, Nat.le_of_ble_eq_true rfl⟩) mt_T147 rfl rfl hl.1 rfl (Nat.le_of_ble_eq_true rfl) dX12_weekly_38 ⟨Nat.zero_le _, Nat.zero_le _⟩) hS (fun H locs hH hS => ?_)
    refine lv_imul hx hb dX12_weekly_41 ?_
    refine lv_iadd hx hb dX12_weekly_42 ?_
    refine mt_lti hf (fun x14 ex14 hf => ?_)
    refine lv_istore_n (lv' := [(1, .int x14), (0, .ref (E.2.1 147)), (2, .int x2)]) hx hb dX12_weekly_43 rfl hl (by decide) rfl (fun ls hl => ?_)
    refine mt_ltI hf (fun x15 ex15 hf => ?_)
    refine lv_iinc (v := x15) (lv' := [(2, .int x15), (1, .int x14), (0, .ref (E.2.1 147))]) hx hb dX12_weekly_44 hl (k := 2) rfl (by rw [ex15]; rfl) (by decide) rfl (fun ls hl => ?_)
    refine lv_goto (tgt := 4) hx hb dX12_weekly_47 (by decide) ?_
    exact ih4 x14 x15 hf _ _ _ hH hS (lv_sub hl [2, 1, 0] rfl)

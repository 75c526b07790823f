/-! THE WALKS, laid by program: each method returns what its pure function says, and leaves the memory so -/
set_option maxHeartbeats 4000000 in
set_option maxRecDepth 100000 in
theorem c_X12_bestRule (l : Launch) (E : mt_E) (a1 : Int32) (M : mt_M) (u : mt_U) (r : Int32) (M' : mt_M) (hf : f_X12_bestRule a1 M = some (r, M')) : Met l yX12_bestRule wsX12_bestRule ({ frames := 4, cells := 0, slots := 0, locals := 92 } : Room) (mt_P E [.ref (E.2.1 147), .int a1] M u) (mt_Qi E r M' u) 0 0 (mt_A E) := by
  refine Met.ofW (cc := cX12_bestRule) (maxL := 4) (ret := (some .int)) (by decide) rfl ?_
  intro p e s mid args below meth c0 s₁ B hml hv
  obtain ⟨rfl, hI, hH⟩ := hv
  have hx := B.exec
  have hb := B.bytes
  have hr := B.returns
  have hts := atoms_spec (ws := wsX12_bestRule) B.pre
  have hown : s.vm.findClass RX12 = some mid.cls := findClass_of_methodNamed B.named
  have hlocks := B.notSynchronized
  have hS : va_S (mt_A E) s.heap s.heap [] := va_S.rf
  have hl := lv_entry ([.ref (E.2.1 147), .int a1]) (n := 4) (Nat.le_of_ble_eq_true rfl)
  rw [lg_entry_eq]
  generalize (lg_sl ([.ref (E.2.1 147), .int a1]) ++ List.replicate (4 - (lg_sl ([.ref (E.2.1 147), .int a1])).length) Slot.unset).toArray = ls at hl ⊢
  have hl : lv_has ls 4 [(0, .ref (E.2.1 147)), (1, .int a1)] := hl
  unfold f_X12_bestRule at hf
  refine lv_iload_n hx hb dX12_bestRule_0 rfl (lv_at hl 1 rfl) ?_
  refine lv_iconst (v := 0) hx hb dX12_bestRule_1 (by decide) ?_
  refine lv_iconst (v := 1) hx hb dX12_bestRule_2 (by decide) ?_
  refine mt_b1I hf (fun r2 hg1 hf => ?_)
  refine mt_goi (mt_runS (As := [.int a1, .int (0 : Int32), .int (1 : Int32)]) (rest := []) ⟨hx, hb, hml, hown, hts⟩ hI hH (c_X12_isIn l E a1 (0 : Int32) (1 : Int32) M u _ hg1) (va_cwS 3 hts gX12_bestRule_X12_isIn rfl rfl rfl (by decide +kernel) ⟨Nat.le_of_ble_eq_true rfl, Nat.le_of_ble_eq_true rfl⟩) rfl hl.1 rfl (Nat.le_of_ble_eq_true rfl) dX12_bestRule_3 ⟨Nat.zero_le _, Nat.zero_le _⟩) hS (fun H locs hH hS => ?_)
  refine lv_if_ne (tgt := 16) hx hb dX12_bestRule_6 (by decide) (fun c3 => ?_) (fun c3 => ?_)
  · have hf := mt_ifF c3 hf
    refine lv_iconst (v := 1) hx hb dX12_bestRule_16 (by decide) ?_
    refine lv_istore_n (lv' := [(2, .int (1 : Int32)), (0, .ref (E.2.1 147)), (1, .int a1)]) hx hb dX12_bestRule_17 rfl hl (by decide) rfl (fun ls hl => ?_)
    refine lv_iconst (v := 2) hx hb dX12_bestRule_18 (by decide) ?_
    refine lv_istore_n (lv' := [(3, .int (2 : Int32)), (2, .int (1 : Int32)), (0, .ref (E.2.1 147)), (1, .int a1)]) hx hb dX12_bestRule_19 rfl hl (by decide) rfl (fun ls hl => ?_)
    refine mt_lpI2 hf (fun (x4 : Int32) (x5 : Int32) => ∀ (H : Heap) (locs : List Loc) (ls : Array Slot), mt_H E M u H → va_S (mt_A E) s.heap H locs → lv_has ls 4 [(0, .ref (E.2.1 147)), (1, .int a1), (2, .int x4), (3, .int x5)] → W p l e (headSpec wsX12_bestRule ({ frames := 4, cells := 0, slots := 0, locals := 92 } : Room)).room s mid (([.ref (E.2.1 147), .int a1] : List Value).toArray) below meth c0 H locs 0 0 (MQ below (mt_Qi E r M' u) (([.ref (E.2.1 147), .int a1] : List Value).toArray) s 0 0 (mt_A E)) (F0 mid 20 ls [])) ?_ _ _ _ hH hS (lv_sub hl [2, 3, 1, 0] rfl)
    intro k6 ih7 x4 x5 hf H locs ls hH hS hl
    refine lv_iload_n hx hb dX12_bestRule_20 rfl (lv_at hl 3 rfl) ?_
    refine lv_iconst (v := 4) hx hb dX12_bestRule_21 (by decide) ?_
    refine lv_icmp_ge (tgt := 50) hx hb dX12_bestRule_22 (by decide) (fun c8 => ?_) (fun c8 => ?_)
    · have hf := mt_ifT c8 hf
      refine lv_iload_n hx hb dX12_bestRule_50 rfl (lv_at hl 1 rfl) ?_
      refine lv_if_ne (tgt := 58) hx hb dX12_bestRule_51 (by decide) (fun c9 => ?_) (fun c9 => ?_)
      · have hf := mt_ifF c9 hf
        refine lv_aload_n hx hb dX12_bestRule_58 rfl (lv_at hl 0 rfl) ?_
        refine lv_iload_n hx hb dX12_bestRule_59 rfl (lv_at hl 2 rfl) ?_
        refine mt_b1I hf (fun r11 hg10 hf => ?_)
        refine mt_goi (mt_runV (i := 147) (As := [.int x4]) (rest := []) ⟨hx, hb, hml, hown, hts⟩ hI hH (c_X12_wrongBy l E x4 M u _ hg10) (cwV 1 hts gX12_bestRule_X12_wrongBy rfl rfl rfl (by decide +kernel) ⟨Nat.le_of_ble_eq_true rfl, Nat.le_of_ble_eq_true rfl⟩) mt_T147 rfl rfl hl.1 rfl (Nat.le_of_ble_eq_true rfl) dX12_bestRule_60 ⟨Nat.zero_le _, Nat.zero_le _⟩) hS (fun H locs hH hS => ?_)
        obtain ⟨i1, i2⟩ := mt_so2 hf
        subst i1
        subst i2
        exact mt_iret hx hb hr hI hH hS hlocks dX12_bestRule_63
      · have hf := mt_ifT c9 hf
        refine lv_iload_n hx hb dX12_bestRule_54 rfl (lv_at hl 2 rfl) ?_
        refine lv_goto (tgt := 63) hx hb dX12_bestRule_55 (by decide) ?_
        obtain ⟨i1, i2⟩ := mt_so2 hf
        subst i1
        subst i2
        exact mt_iret hx hb hr hI hH hS hlocks dX12_bestRule_63
    · have hf := mt_ifF c8 hf
      refine lv_aload_n hx hb dX12_bestRule_25 rfl (lv_at hl 0 rfl) ?_
      refine lv_iload_n hx hb dX12_bestRule_26 rfl (lv_at hl 3 rfl) ?_
      refine mt_b1I hf (fun r13 hg12 hf => ?_)
      refine mt_goi (mt_runV (i := 147) (As := [.int x5]) (rest := []) ⟨hx, hb, hml, hown, hts⟩ hI hH (c_X12_wrongBy l E x5 M u _ hg12) (cwV 1 hts gX12_bestRule_X12_wrongBy rfl rfl rfl (by decide +kernel) ⟨Nat.le_of_ble_eq_true rfl, Nat.le_of_ble_eq_true rfl⟩) mt_T147 rfl rfl hl.1 rfl (Nat.le_of_ble_eq_true rfl) dX12_bestRule_27 ⟨Nat.zero_le _, Nat.zero_le _⟩) hS (fun H locs hH hS => ?_)
      refine lv_aload_n hx hb dX12_bestRule_30 rfl (lv_at hl 0 rfl) ?_
      refine lv_iload_n hx hb dX12_bestRule_31 rfl (lv_at hl 2 rfl) ?_
      refine mt_b1I hf (fun r15 hg14 hf => ?_)
      refine mt_goi (mt_runV (i := 147) (As := [.int x4]) (rest := [.int r13]) ⟨hx, hb, hml, hown, hts⟩ hI hH (c_X12_wrongBy l E x4 M u _ hg14) (cwV 1 hts gX12_bestRule_X12_wrongBy rfl rfl rfl (by decide +kernel) ⟨Nat.le_of_ble_eq_true rfl, Nat.le_of_ble_eq_true rfl⟩) mt_T147 rfl rfl hl.1 rfl (Nat.le_of_ble_eq_true rfl) dX12_bestRule_32 ⟨Nat.zero_le _, Nat.zero_le _⟩) hS (fun H locs hH hS => ?_)
      refine mt_jn1 hf (fun (v16 : Int32) => ∀ (H : Heap) (locs : List Loc) (ls : Array Slot), mt_H E M u H → va_S (mt_A E) s.heap H locs → lv_has ls 4 [(0, .ref (E.2.1 147)), (1, .int a1), (3, .int x5)] → W p l e (headSpec wsX12_bestRule ({ frames := 4, cells := 0, slots := 0, locals := 92 } : Room)).room s mid (([.ref (E.2.1 147), .int a1] : List Value).toArray) below meth c0 H locs 0 0 (MQ below (mt_Qi E r M' u) (([.ref (E.2.1 147), .int a1] : List Value).toArray) s 0 0 (mt_A E)) (F0 mid 43 ls [.int v16])) ?_ ?_
      · intro v16 hf H locs ls hH hS hl
        refine lv_istore_n (lv' := [(2, .int v16), (0, .ref (E.2.1 147)), (1, .int a1), (3, .int x5)]) hx hb dX12_bestRule_43 rfl hl (by decide) rfl (fun ls hl => ?_)
        refine mt_ltI hf (fun x19 ex19 hf => ?_)
        refine lv_iinc (v := x19) (lv' := [(3, .int x19), (2, .int v16), (0, .ref (E.2.1 147)), (1, .int a1)]) hx hb dX12_bestRule_44 hl (k := 3) rfl (by rw [ex19]; rfl) (by decide) rfl (fun ls hl => ?_)
        refine lv_goto (tgt := 20) hx hb dX12_bestRule_47 (by decide) ?_
        exact ih7 v16 x19 hf _ _ _ hH hS (lv_sub hl [2, 3, 1, 0] rfl)
      · intro j17 hj18 hf
        refine lv_icmp_ge (tgt := 42) hx hb dX12_bestRule_35 (by decide) (fun c20 => ?_) (fun c20 => ?_)
        · have hf := mt_ifT c20 hf
          refine lv_iload_n hx hb dX12_bestRule_42 rfl (lv_at hl 2 rfl) ?_
          exact hj18 x4 hf _ _ _ hH hS (lv_sub hl [0, 1, 3] rfl)
        · have hf := mt_ifF c20 hf
          refine lv_iload_n hx hb dX12_bestRule_38 rfl (lv_at hl 3 rfl) ?_
          refine lv_goto (tgt := 43) hx hb dX12_bestRule_39 (by decide) ?_
          exact hj18 x5 hf _ _ _ hH hS (lv_sub hl [0, 1, 3] rfl)
  · have hf := mt_ifT c3 hf
    refine lv_aload_n hx hb dX12_bestRule_9 rfl (lv_at hl 0 rfl) ?_
    refine lv_bipush (v := (-2)) hx hb dX12_bestRule_10 (by decide) ?_
    refine mt_b2I hf (fun r22 M23 hg21 hf => ?_)
    refine mt_goi (mt_runV (i := 147) (As := [.int (-2 : Int32)]) (rest := []) ⟨hx, hb, hml, hown, hts⟩ hI hH (c_X12_no l E (-2 : Int32) M u _ _ hg21) (cwV 1 hts gX12_bestRule_X12_no rfl rfl rfl (by decide +kernel) ⟨Nat.le_of_ble_eq_true rfl, Nat.le_of_ble_eq_true rfl⟩) mt_T147 rfl rfl hl.1 rfl (Nat.le_of_ble_eq_true rfl) dX12_bestRule_12 ⟨Nat.zero_le _, Nat.zero_le _⟩) hS (fun H locs hH hS => ?_)
    obtain ⟨i1, i2⟩ := mt_so2 hf
    subst i1
    subst i2
    exact mt_iret hx hb hr hI hH hS hlocks dX12_bestRule_15
set_option maxHeartbeats 4000000 in
set_option maxRecDepth 100000 in
theorem c_X12_notDays (l : Launch) (E : mt_E) (a0 : Int32) (M : mt_M) (u : mt_U) (r : Int32) (hf : f_X12_notDays a0 = some (r)) : Met l yX12_notDays wsX12_notDays ({ frames := 1, cells := 0, slots := 0, locals := 22 } : Room) (mt_P E [.int a0] M u) (mt_Qi E r M u) 0 0 (mt_A E) := by
  refine Met.ofW (cc := cX12_notDays) (maxL := 1) (ret := (some .int)) (by decide) rfl ?_
  intro p e s mid args below meth c0 s₁ B hml hv
  obtain ⟨rfl, hI, hH⟩ := hv
  have hx := B.exec
  have hb := B.bytes
  have hr := B.returns
  have hts := atoms_spec (ws := wsX12_notDays) B.pre
  have hown : s.vm.findClass RX12 = some mid.cls := findClass_of_methodNamed B.named
  have hlocks := B.notSynchronized
  have hS : va_S (mt_A E) s.heap s.heap [] := va_S.rf
  have hl := lv_entry ([.int a0]) (n := 1) (Nat.le_of_ble_eq_true rfl)
  rw [lg_entry_eq]
  generalize (lg_sl ([.int a0]) ++ List.replicate (1 - (lg_sl ([.int a0])).length) Slot.unset).toArray = ls at hl ⊢
  have hl : lv_has ls 1 [(0, .int a0)] := hl
  unfold f_X12_notDays at hf
  refine lv_iload_n hx hb dX12_notDays_0 rfl (lv_at hl 0 rfl) ?_
  refine lv_iconst (v := 0) hx hb dX12_notDays_1 (by decide) ?_
  refine lv_bipush (v := 60) hx hb dX12_notDays_2 (by decide) ?_
  refine mt_b1I hf (fun r2 hg1 hf => ?_)
  refine mt_goi (mt_runS (As := [.int a0, .int (0 : Int32), .int (60 : Int32)]) (rest := []) ⟨hx, hb, hml, hown, hts⟩ hI hH (c_X12_bound l E a0 (0 : Int32) (60 : Int32) M u _ hg1) (va_cwS 3 hts gX12_notDays_X12_bound rfl rfl rfl (by decide +kernel) ⟨Nat.le_of_ble_eq_true rfl, Nat.le_of_ble_eq_true rfl⟩) rfl hl.1 rfl (Nat.le_of_ble_eq_true rfl) dX12_notDays_4 ⟨Nat.zero_le _, Nat.zero_le _⟩) hS (fun H locs hH hS => ?_)
  have i1 := mt_so1 hf
  subst i1
  exact mt_iret hx hb hr hI hH hS hlocks dX12_notDays_7
set_option maxHeartbeats 4000000 in
set_option maxRecDepth 100000 in
theorem c_X12_stockIn (l : Launch) (E : mt_E) (a1 : Int32) (a2 : Int32) (M : mt_M) (u : mt_U) (r : Int32) (M' : mt_M) (hf : f_X12_stockIn a1 a2 M = some (r, M')) : Met l yX12_stockIn wsX12_stockIn ({ frames := 3, cells := 0, slots := 0, locals := 67 } : Room) (mt_P E [.ref (E.2.1 147), .int a1, .int a2] M u) (mt_Qi E r M' u) 0 0 (mt_A E) := by
  refine Met.ofW (cc := cX12_stockIn) (maxL := 5) (ret := (some .int)) (by decide) rfl ?_
  intro p e s mid args below meth c0 s₁ B hml hv
  obtain ⟨rfl, hI, hH⟩ := hv
  have hx := B.exec
  have hb := B.bytes
  have hr := B.returns
  have hts := atoms_spec (ws := wsX12_stockIn) B.pre
  have hown : s.vm.findClass RX12 = some mid.cls := findClass_of_methodNamed B.named
  have hlocks := B.notSynchronized
  have hS : va_S (mt_A E) s.heap s.heap [] := va_S.rf
  have hl := lv_entry ([.ref (E.2.1 147), .int a1, .int a2]) (n := 5) (Nat.le_of_ble_eq_true rfl)
  rw [lg_entry_eq]
  generalize (lg_sl ([.ref (E.2.1 147), .int a1, .int a2]) ++ List.replicate (5 - (lg_sl ([.ref (E.2.1 147), .int a1, .int a2])).length) Slot.unset).toArray = ls at hl ⊢
  have hl : lv_has ls 5 [(0, .ref (E.2.1 147)), (1, .int a1), (2, .int a2)] := hl
  unfold f_X12_stockIn at hf
  have kw0 := hts (.fieldLink RX12 22 "MilkTwiceModel" "stocked" "[I") (List.mem_of_getElem? (i := 1) rfl)
  have hinX12 : ∀ w ∈ u_ws RX12 TX12 29, w ∈ wsX12_stockIn := fun w h => List.mem_cons_of_mem _ (List.mem_append_right _ h)
  refine lv_aload_n hx hb dX12_stockIn_0 rfl (lv_at hl 0 rfl) ?_
  refine lv_iload_n hx hb dX12_stockIn_1 rfl (lv_at hl 1 rfl) ?_
  refine mt_b1I hf (fun r2 hg1 hf => ?_)
  refine mt_goi (mt_runV (i := 147) (As := [.int a1]) (rest := []) ⟨hx, hb, hml, hown, hts⟩ hI hH (c_X12_isThing l E a1 M u _ hg1) (cwV 1 hts gX12_stockIn_X12_isThing rfl rfl rfl (by decide +kernel) ⟨Nat.le_of_ble_eq_true rfl, Nat.le_of_ble_eq_true rfl⟩) mt_T147 rfl rfl hl.1 rfl (Nat.le_of_ble_eq_true rfl) dX12_stockIn_2 ⟨Nat.zero_le _, Nat.zero_le _⟩) hS (fun H locs hH hS => ?_)
  refine mt_jn1 hf (fun (v3 : Int32) => ∀ (H : Heap) (locs : List Loc) (ls : Array Slot), mt_H E M u H → va_S (mt_A E) s.heap H locs → lv_has ls 5 [(0, .ref (E.2.1 147)), (1, .int a1), (2, .int a2)] → W p l e (headSpec wsX12_stockIn ({ frames := 3, cells := 0, slots := 0, locals := 67 } : Room)).room s mid (([.ref (E.2.1 147), .int a1, .int a2] : List Value).toArray) below meth c0 H locs 0 0 (MQ below (mt_Qi E r M' u) (([.ref (E.2.1 147), .int a1, .int a2] : List Value).toArray) s 0 0 (mt_A E)) (F0 mid 16 ls [.int v3])) ?_ ?_
  · intro v3 hf H locs ls hH hS hl
    refine lv_istore_n (lv' := [(3, .int v3), (0, .ref (E.2.1 147)), (1, .int a1), (2, .int a2)]) hx hb dX12_stockIn_16 rfl hl (by decide) rfl (fun ls hl => ?_)
    refine lv_iload_n hx hb dX12_stockIn_17 rfl (lv_at hl 0 rfl) ?_
    refine lv_if_eq (tgt := 27) hx hb dX12_stockIn_18 (by decide) (fun c6 => ?_) (fun c6 => ?_)
    · have hf := mt_ifT c6 hf
      refine lv_aload_n hx hb dX12_stockIn_27 rfl (lv_at hl 1 rfl) ?_
      refine mt_b1I hf (fun M8 hg7 hf => ?_)
      refine mt_gov (mt_runV (i := 147) (As := []) (rest := []) ⟨hx, hb, hml, hown, hts⟩ hI hH (c_X12_thinks l E M u _ hg7) (cwV 0 hts gX12_stockIn_X12_thinks rfl rfl rfl (by decide +kernel) ⟨Nat.le_of_ble_eq_true rfl, Nat.le_of_ble_eq_true rfl⟩) mt_T147 rfl rfl hl.1 rfl (Nat.le_of_ble_eq_true rfl) dX12_stockIn_28 ⟨Nat.zero_le _, Nat.zero_le _⟩) hS (fun H locs hH hS => ?_)
      refine lv_iconst (v := 0) hx hb dX12_stockIn_31 (by decide) ?_
      refine lv_istore (lv' := [(4, .int (0 : Int32)), (3, .int v3), (0, .ref (E.2.1 147)), (1, .int a1), (2, .int a2)]) hx hb dX12_stockIn_32 hl (by decide) rfl (fun ls hl => ?_)
      refine mt_lpI2 hf (fun (x9 : Int32) (M10 : mt_M) => ∀ (H : Heap) (locs : List Loc) (ls : Array Slot), mt_H E M10 u H → va_S (mt_A E) s.heap H locs → lv_has ls 5 [(0, .ref (E.2.1 147)), (1, .int a1), (2, .int a2), (4, .int x9)] → W p l e (headSpec wsX12_stockIn ({ frames := 3, cells := 0, slots := 0, locals := 67 } : Room)).room s mid (([.ref (E.2.1 147), .int a1, .int a2] : List Value).toArray) below meth c0 H locs 0 0 (MQ below (mt_Qi E r M' u) (([.ref (E.2.1 147), .int a1, .int a2] : List Value).toArray) s 0 0 (mt_A E)) (F0 mid 34 ls [])) ?_ _ _ _ hH hS (lv_sub hl [2, 3, 4, 0] rfl)
      intro k11 ih12 x9 M10 hf H locs ls hH hS hl
      refine lv_iload hx hb dX12_stockIn_34 (lv_at hl 3 rfl) ?_
      refine lv_iload_n hx hb dX12_stockIn_36 rfl (lv_at hl 2 rfl) ?_
      refine lv_icmp_ge (tgt := 51) hx hb dX12_stockIn_37 (by decide) (fun c13 => ?_) (fun c13 => ?_)
      · have hf := mt_ifT c13 hf
        refine lv_aload_n hx hb dX12_stockIn_51 rfl (lv_at hl 0 rfl) ?_
        refine mt_getr (C := RX12) (T := TX12) (N := 29) hx hb hts hinX12 hown hI hH mt_T147 rfl 4 (by decide) kw0 rfl rfl dX12_stockIn_52 ?_
        refine lv_iload_n hx hb dX12_stockIn_55 rfl (lv_at hl 1 rfl) ?_
        refine mt_ciI hf (fun q14 hf => ?_)
        refine mt_iald hx hb hI hH mt_T152 q14 dX12_stockIn_56 ?_
        refine mt_lti hf (fun x15 ex15 hf => ?_)
        refine lv_istore (lv' := [(4, .int x15), (0, .ref (E.2.1 147)), (1, .int a1), (2, .int a2)]) hx hb dX12_stockIn_57 hl (by decide) rfl (fun ls hl => ?_)
        refine lv_aload_n hx hb dX12_stockIn_59 rfl (lv_at hl 1 rfl) ?_
        refine mt_b1I hf (fun M17 hg16 hf => ?_)
        refine mt_gov (mt_runV (i := 147) (As := []) (rest := []) ⟨hx, hb, hml, hown, hts⟩ hI hH (c_X12_forgets l E M10 u _ hg16) (cwV 0 hts gX12_stockIn_X12_forgets rfl rfl rfl (by decide +kernel) ⟨Nat.le_of_ble_eq_true rfl, Nat.le_of_ble_eq_true rfl⟩) mt_T147 rfl rfl hl.1 rfl (Nat.le_of_ble_eq_true rfl) dX12_stockIn_60 ⟨Nat.zero_le _, Nat.zero_le _⟩) hS (fun H locs hH hS => ?_)
        refine lv_iload hx hb dX12_stockIn_63 (lv_at hl 0 rfl) ?_
        obtain ⟨i1, i2⟩ := mt_so2 hf
        subst i1
        subst i2
        exact mt_iret hx hb hr hI hH hS hlocks dX12_stockIn_65
      · have hf := mt_ifF c13 hf
        refine lv_aload_n hx hb dX12_stockIn_40 rfl (lv_at hl 0 rfl) ?_
        refine mt_b2I hf (fun r19 M20 hg18 hf => ?_)
        refine mt_goi (mt_runV (i := 147) (As := []) (rest := []) ⟨hx, hb, hml, hown, hts⟩ hI hH (c_X12_goesDay l E M10 u _ _ hg18) (cwV 0 hts gX12_stockIn_X12_goesDay rfl rfl rfl (by decide +kernel) ⟨Nat.le_of_ble_eq_true rfl, Nat.le_of_ble_eq_true rfl⟩) mt_T147 rfl rfl hl.1 rfl (Nat.le_of_ble_eq_true rfl) dX12_stockIn_41 ⟨Nat.zero_le _, Nat.zero_le _⟩) hS (fun H locs hH hS => ?_)
        refine lv_pop hx hb dX12_stockIn_44 rfl ?_
        refine mt_ltI hf (fun x21 ex21 hf => ?_)
        refine lv_iinc (v := x21) (lv' := [(4, .int x21), (0, .ref (E.2.1 147)), (1, .int a1), (2, .int a2)]) hx hb dX12_stockIn_45 hl (k := 3) rfl (by rw [ex21]; rfl) (by decide) rfl (fun ls hl => ?_)
        refine lv_goto (tgt := 34) hx hb dX12_stockIn_48 (by decide) ?_
        exact ih12 x21 M20 hf _ _ _ hH hS (lv_sub hl [1, 2, 3, 0] rfl)
    · have hf := mt_ifF c6 hf
      refine lv_aload_n hx hb dX12_stockIn_21 rfl (lv_at hl 1 rfl) ?_
      refine lv_iload_n hx hb dX12_stockIn_22 rfl (lv_at hl 0 rfl) ?_
      refine mt_b2I hf (fun r23 M24 hg22 hf => ?_)
      refine mt_goi (mt_runV (i := 147) (As := [.int v3]) (rest := []) ⟨hx, hb, hml, hown, hts⟩ hI hH (c_X12_no l E v3 M u _ _ hg22) (cwV 1 hts gX12_stockIn_X12_no rfl rfl rfl (by decide +kernel) ⟨Nat.le_of_ble_eq_true rfl, Nat.le_of_ble_eq_true rfl⟩) mt_T147 rfl rfl hl.1 rfl (Nat.le_of_ble_eq_true rfl) dX12_stockIn_23 ⟨Nat.zero_le _, Nat.zero_le _⟩) hS (fun H locs hH hS => ?_)
      obtain ⟨i1, i2⟩ := mt_so2 hf
      subst i1
      subst i2
      exact mt_iret hx hb hr hI hH hS hlocks dX12_stockIn_26
  · intro j4 hj5 hf
    refine lv_if_ne (tgt := 12) hx hb dX12_stockIn_5 (by decide) (fun c25 => ?_) (fun c25 => ?_)
    · have hf := mt_ifF c25 hf
      refine lv_iload_n hx hb dX12_stockIn_12 rfl (lv_at hl 2 rfl) ?_
      refine mt_b1I hf (fun r27 hg26 hf => ?_)
      refine mt_goi (mt_runS (As := [.int a2]) (rest := []) ⟨hx, hb, hml, hown, hts⟩ hI hH (c_X12_notDays l E a2 M u _ hg26) (va_cwS 1 hts gX12_stockIn_X12_notDays rfl rfl rfl (by decide +kernel) ⟨Nat.le_of_ble_eq_true rfl, Nat.le_of_ble_eq_true rfl⟩) rfl hl.1 rfl (Nat.le_of_ble_eq_true rfl) dX12_stockIn_13 ⟨Nat.zero_le _, Nat.zero_le _⟩) hS (fun H locs hH hS => ?_)
      exact hj5 r27 hf _ _ _ hH hS (lv_sub hl [0, 1, 2] rfl)
    · have hf := mt_ifT c25 hf
      refine lv_iconst (v := (-1)) hx hb dX12_stockIn_8 (by decide) ?_
      refine lv_goto (tgt := 16) hx hb dX12_stockIn_9 (by decide) ?_
      exact hj5 (-1 : Int32) hf _ _ _ hH hS (lv_sub hl [0, 1, 2] rfl)
set_option maxHeartbeats 4000000 in
set_option maxRecDepth 100000 in
theorem c_X12_lackingIn (l : Launch) (E : mt_E) (a1 : Int32) (M : mt_M) (u : mt_U) (r : Int32) (M' : mt_M) (hf : f_X12_lackingIn a1 M = some (r, M')) : Met l yX12_lackingIn wsX12_lackingIn ({ frames := 3, cells := 0, slots := 0, locals := 67 } : Room) (mt_P E [.ref (E.2.1 147), .int a1] M u) (mt_Qi E r M' u) 0 0 (mt_A E) := by
  refine Met.ofW (cc := cX12_lackingIn) (maxL := 5) (ret := (some .int)) (by decide) rfl ?_
  intro p e s mid args below meth c0 s₁ B hml hv
  obtain ⟨rfl, hI, hH⟩ := hv
  have hx := B.exec
  have hb := B.bytes
  have hr := B.returns
  have hts := atoms_spec (ws := wsX12_lackingIn) B.pre
  have hown : s.vm.findClass RX12 = some mid.cls := findClass_of_methodNamed B.named
  have hlocks := B.notSynchronized
  have hS : va_S (mt_A E) s.heap s.heap [] := va_S.rf
  have hl := lv_entry ([.ref (E.2.1 147), .int a1]) (n := 5) (Nat.le_of_ble_eq_true rfl)
  rw [lg_entry_eq]
  generalize (lg_sl ([.ref (E.2.1 147), .int a1]) ++ List.replicate (5 - (lg_sl ([.ref (E.2.1 147), .int a1])).length) Slot.unset).toArray = ls at hl ⊢
  have hl : lv_has ls 5 [(0, .ref (E.2.1 147)), (1, .int a1)] := hl
  unfold f_X12_lackingIn at hf
  have kw0 := hts (.fieldLink RX12 31 "MilkTwiceModel" "sums" "[I") (List.mem_of_getElem? (i := 1) rfl)
  have kw1 := hts (.fieldLink RX12 229 "MilkTwiceModel" "spoiltBehind" "I") (List.mem_of_getElem? (i := 2) rfl)
  have hinX12 : ∀ w ∈ u_ws RX12 TX12 29, w ∈ wsX12_lackingIn := fun w h => List.mem_cons_of_mem _ (List.mem_append_right _ h)
  refine lv_aload_n hx hb dX12_lackingIn_0 rfl (lv_at hl 0 rfl) ?_
  refine mt_b1I hf (fun M2 hg1 hf => ?_)
  refine mt_gov (mt_runV (i := 147) (As := []) (rest := []) ⟨hx, hb, hml, hown, hts⟩ hI hH (c_X12_thinks l E M u _ hg1) (cwV 0 hts gX12_lackingIn_X12_thinks rfl rfl rfl (by decide +kernel) ⟨Nat.le_of_ble_eq_true rfl, Nat.le_of_ble_eq_true rfl⟩) mt_T147 rfl rfl hl.1 rfl (Nat.le_of_ble_eq_true rfl) dX12_lackingIn_1 ⟨Nat.zero_le _, Nat.zero_le _⟩) hS (fun H locs hH hS => ?_)
  refine lv_aload_n hx hb dX12_lackingIn_4 rfl (lv_at hl 0 rfl) ?_
  refine mt_getr (C := RX12) (T := TX12) (N := 29) hx hb hts hinX12 hown hI hH mt_T147 rfl 7 (by decide) kw0 rfl rfl dX12_lackingIn_5 ?_
  refine lv_iconst (v := 1) hx hb dX12_lackingIn_8 (by decide) ?_
  refine mt_iald hx hb hI hH mt_T155 (mt_vl (by decide)) dX12_lackingIn_9 ?_
  refine mt_lti hf (fun x3 ex3 hf => ?_)
  refine lv_istore_n (lv' := [(2, .int x3), (0, .ref (E.2.1 147)), (1, .int a1)]) hx hb dX12_lackingIn_10 rfl hl (by decide) rfl (fun ls hl => ?_)
  refine lv_aload_n hx hb dX12_lackingIn_11 rfl (lv_at hl 1 rfl) ?_
  refine mt_getr (C := RX12) (T := TX12) (N := 29) hx hb hts hinX12 hown hI hH mt_T147 rfl 7 (by decide) kw0 rfl rfl dX12_lackingIn_12 ?_
  refine lv_iconst (v := 2) hx hb dX12_lackingIn_15 (by decide) ?_
  refine mt_iald hx hb hI hH mt_T155 (mt_vl (by decide)) dX12_lackingIn_16 ?_
  refine mt_lti hf (fun x4 ex4 hf => ?_)
  refine lv_istore_n (lv' := [(3, .int x4), (2, .int x3), (0, .ref (E.2.1 147)), (1, .int a1)]) hx hb dX12_lackingIn_17 rfl hl (by decide) rfl (fun ls hl => ?_)
  refine lv_iconst (v := 0) hx hb dX12_lackingIn_18 (by decide) ?_
  refine lv_istore (lv' := [(4, .int (0 : Int32)), (3, .int x4), (2, .int x3), (0, .ref (E.2.1 147)), (1, .int a1)]) hx hb dX12_lackingIn_19 hl (by decide) rfl (fun ls hl => ?_)
  refine mt_lpI2 hf (fun (x5 : Int32) (M6 : mt_M) => ∀ (H : Heap) (locs : List Loc) (ls : Array Slot), mt_H E M6 u H → va_S (mt_A E) s.heap H locs → lv_has ls 5 [(0, .ref (E.2.1 147)), (1, .int a1), (2, .int x3), (3, .int x4), (4, .int x5)] → W p l e (headSpec wsX12_lackingIn ({ frames := 3, cells := 0, slots := 0, locals := 67 } : Room)).room s mid (([.ref (E.2.1 147), .int a1] : List Value).toArray) below meth c0 H locs 0 0 (MQ below (mt_Qi E r M' u) (([.ref (E.2.1 147), .int a1] : List Value).toArray) s 0 0 (mt_A E)) (F0 mid 21 ls [])) ?_ _ _ _ hH hS (lv_sub hl [3, 4, 2, 1, 0] rfl)
  intro k7 ih8 x5 M6 hf H locs ls hH hS hl
  refine lv_iload hx hb dX12_lackingIn_21 (lv_at hl 4 rfl) ?_
  refine lv_iload_n hx hb dX12_lackingIn_23 rfl (lv_at hl 1 rfl) ?_
  refine lv_icmp_ge (tgt := 38) hx hb dX12_lackingIn_24 (by decide) (fun c9 => ?_) (fun c9 => ?_)
  · have hf := mt_ifT c9 hf
    refine lv_aload_n hx hb dX12_lackingIn_38 rfl (lv_at hl 0 rfl) ?_
    refine mt_getr (C := RX12) (T := TX12) (N := 29) hx hb hts hinX12 hown hI hH mt_T147 rfl 7 (by decide) kw0 rfl rfl dX12_lackingIn_39 ?_
    refine lv_iconst (v := 1) hx hb dX12_lackingIn_42 (by decide) ?_
    refine mt_iald hx hb hI hH mt_T155 (mt_vl (by decide)) dX12_lackingIn_43 ?_
    refine lv_iload_n hx hb dX12_lackingIn_44 rfl (lv_at hl 2 rfl) ?_
    refine lv_isub hx hb dX12_lackingIn_45 ?_
    refine mt_lti hf (fun x10 ex10 hf => ?_)
    refine lv_istore (lv' := [(4, .int x10), (0, .ref (E.2.1 147)), (1, .int a1), (2, .int x3), (3, .int x4)]) hx hb dX12_lackingIn_46 hl (by decide) rfl (fun ls hl => ?_)
    refine lv_aload_n hx hb dX12_lackingIn_48 rfl (lv_at hl 1 rfl) ?_
    refine lv_aload_n hx hb dX12_lackingIn_49 rfl (lv_at hl 1 rfl) ?_
    refine mt_getr (C := RX12) (T := TX12) (N := 29) hx hb hts hinX12 hown hI hH mt_T147 rfl 7 (by decide) kw0 rfl rfl dX12_lackingIn_50 ?_
    refine lv_iconst (v := 2) hx hb dX12_lackingIn_53 (by decide) ?_
    refine mt_iald hx hb hI hH mt_T155 (mt_vl (by decide)) dX12_lackingIn_54 ?_
    refine lv_iload_n hx hb dX12_lackingIn_55 rfl (lv_at hl 4 rfl) ?_
    refine lv_isub hx hb dX12_lackingIn_56 ?_
    refine mt_puti (ty := .int) (C := RX12) (T := TX12) (N := 29) hx hb hts hinX12 tyX12 tyX12_ok nmX12 hown hI hH hS mt_T147 rfl 24 (by decide) kw1 rfl rfl (by decide +kernel) rfl rfl rfl dX12_lackingIn_57 (fun H locs hH hS => ?_)
    refine mt_ltI hf (fun M11 eM11 hf => ?_)
    rw [← eM11] at hH
    refine lv_aload_n hx hb dX12_lackingIn_60 rfl (lv_at hl 1 rfl) ?_
    refine mt_b1I hf (fun M13 hg12 hf => ?_)
    refine mt_gov (mt_runV (i := 147) (As := []) (rest := []) ⟨hx, hb, hml, hown, hts⟩ hI hH (c_X12_forgets l E M11 u _ hg12) (cwV 0 hts gX12_lackingIn_X12_forgets rfl rfl rfl (by decide +kernel) ⟨Nat.le_of_ble_eq_true rfl, Nat.le_of_ble_eq_true rfl⟩) mt_T147 rfl rfl hl.1 rfl (Nat.le_of_ble_eq_true rfl) dX12_lackingIn_61 ⟨Nat.zero_le _, Nat.zero_le _⟩) hS (fun H locs hH hS => ?_)
    refine lv_iload hx hb dX12_lackingIn_64 (lv_at hl 0 rfl) ?_
    obtain ⟨i1, i2⟩ := mt_so2 hf
    subst i1
    subst i2
    exact mt_iret hx hb hr hI hH hS hlocks dX12_lackingIn_66
  · have hf := mt_ifF c9 hf
    refine lv_aload_n hx hb dX12_lackingIn_27 rfl (lv_at hl 0 rfl) ?_
    refine mt_b2I hf (fun r15 M16 hg14 hf => ?_)
    refine mt_goi (mt_runV (i := 147) (As := []) (rest := []) ⟨hx, hb, hml, hown, hts⟩ hI hH (c_X12_goesDay l E M6 u _ _ hg14) (cwV 0 hts gX12_lackingIn_X12_goesDay rfl rfl rfl (by decide +kernel) ⟨Nat.le_of_ble_eq_true rfl, Nat.le_of_ble_eq_true rfl⟩) mt_T147 rfl rfl hl.1 rfl (Nat.le_of_ble_eq_true rfl) dX12_lackingIn_28 ⟨Nat.zero_le _, Nat.zero_le _⟩) hS (fun H locs hH hS => ?_)
    refine lv_pop hx hb dX12_lackingIn_31 rfl ?_
    refine mt_ltI hf (fun x17 ex17 hf => ?_)
    refine lv_iinc (v := x17) (lv' := [(4, .int x17), (0, .ref (E.2.1 147)), (1, .int a1), (2, .int x3), (3, .int x4)]) hx hb dX12_lackingIn_32 hl (k := 4) rfl (by rw [ex17]; rfl) (by decide) rfl (fun ls hl => ?_)
    refine lv_goto (tgt := 21) hx hb dX12_lackingIn_35 (by decide) ?_
    exact ih8 x17 M16 hf _ _ _ hH hS (lv_sub hl [1, 2, 3, 4, 0] rfl)
set_option maxHeartbeats 4000000 in
set_option maxRecDepth 100000 in
theorem c_X12_lacking (l : Launch) (E : mt_E) (a1 : Int32) (a2 : Int32) (M : mt_M) (u : mt_U) (r : Int32) (M' : mt_M) (hf : f_X12_lacking a1 a2 M = some (r, M')) : Met l yX12_lacking wsX12_lacking ({ frames := 4, cells := 0, slots := 0, locals := 91 } : Room) (mt_P E [.ref (E.2.1 147), .int a1, .int a2] M u) (mt_Qi E r M' u) 0 0 (mt_A E) := by
  refine Met.ofW (cc := cX12_lacking) (maxL := 5) (ret := (some .int)) (by decide) rfl ?_
  intro p e s mid args below meth c0 s₁ B hml hv
  obtain ⟨rfl, hI, hH⟩ := hv
  have hx := B.exec
  have hb := B.bytes
  have hr := B.returns
  have hts := atoms_spec (ws := wsX12_lacking) B.pre
  have hown : s.vm.findClass RX12 = some mid.cls := findClass_of_methodNamed B.named
  have hlocks := B.notSynchronized
  have hS : va_S (mt_A E) s.heap s.heap [] := va_S.rf
  have hl := lv_entry ([.ref (E.2.1 147), .int a1, .int a2]) (n := 5) (Nat.le_of_ble_eq_true rfl)
  rw [lg_entry_eq]
  generalize (lg_sl ([.ref (E.2.1 147), .int a1, .int a2]) ++ List.replicate (5 - (lg_sl ([.ref (E.2.1 147), .int a1, .int a2])).length) Slot.unset).toArray = ls at hl ⊢
  have hl : lv_has ls 5 [(0, .ref (E.2.1 147)), (1, .int a1), (2, .int a2)] := hl
  unfold f_X12_lacking at hf
  have kw0 := hts (.fieldLink RX12 229 "MilkTwiceModel" "spoiltBehind" "I") (List.mem_of_getElem? (i := 1) rfl)
  have hinX12 : ∀ w ∈ u_ws RX12 TX12 29, w ∈ wsX12_lacking := fun w h => List.mem_cons_of_mem _ (List.mem_append_right _ h)
  refine lv_iload_n hx hb dX12_lacking_0 rfl (lv_at hl 1 rfl) ?_
  refine mt_b1I hf (fun r2 hg1 hf => ?_)
  refine mt_goi (mt_runS (As := [.int a1]) (rest := []) ⟨hx, hb, hml, hown, hts⟩ hI hH (c_X12_notDays l E a1 M u _ hg1) (va_cwS 1 hts gX12_lacking_X12_notDays rfl rfl rfl (by decide +kernel) ⟨Nat.le_of_ble_eq_true rfl, Nat.le_of_ble_eq_true rfl⟩) rfl hl.1 rfl (Nat.le_of_ble_eq_true rfl) dX12_lacking_1 ⟨Nat.zero_le _, Nat.zero_le _⟩) hS (fun H locs hH hS => ?_)
  refine lv_istore_n (lv' := [(3, .int r2), (0, .ref (E.2.1 147)), (1, .int a1), (2, .int a2)]) hx hb dX12_lacking_4 rfl hl (by decide) rfl (fun ls hl => ?_)
  refine lv_iload_n hx hb dX12_lacking_5 rfl (lv_at hl 0 rfl) ?_
  refine mt_jn1 hf (fun (x3 : Int32) => ∀ (H : Heap) (locs : List Loc) (ls : Array Slot), mt_H E M u H → va_S (mt_A E) s.heap H locs → lv_has ls 5 [(0, .ref (E.2.1 147)), (1, .int a1), (2, .int a2), (3, .int x3)] → W p l e (headSpec wsX12_lacking ({ frames := 4, cells := 0, slots := 0, locals := 91 } : Room)).room s mid (([.ref (E.2.1 147), .int a1, .int a2] : List Value).toArray) below meth c0 H locs 0 0 (MQ below (mt_Qi E r M' u) (([.ref (E.2.1 147), .int a1, .int a2] : List Value).toArray) s 0 0 (mt_A E)) (F0 mid 21 ls [])) ?_ ?_
  · intro x3 hf H locs ls hH hS hl
    refine lv_iload_n hx hb dX12_lacking_21 rfl (lv_at hl 3 rfl) ?_
    refine lv_if_eq (tgt := 31) hx hb dX12_lacking_22 (by decide) (fun c6 => ?_) (fun c6 => ?_)
    · have hf := mt_ifT c6 hf
      refine lv_aload_n hx hb dX12_lacking_31 rfl (lv_at hl 0 rfl) ?_
      refine lv_iload_n hx hb dX12_lacking_32 rfl (lv_at hl 1 rfl) ?_
      refine mt_b2I hf (fun r8 M9 hg7 hf => ?_)
      refine mt_goi (mt_runV (i := 147) (As := [.int a1]) (rest := []) ⟨hx, hb, hml, hown, hts⟩ hI hH (c_X12_lackingIn l E a1 M u _ _ hg7) (cwV 1 hts gX12_lacking_X12_lackingIn rfl rfl rfl (by decide +kernel) ⟨Nat.le_of_ble_eq_true rfl, Nat.le_of_ble_eq_true rfl⟩) mt_T147 rfl rfl hl.1 rfl (Nat.le_of_ble_eq_true rfl) dX12_lacking_33 ⟨Nat.zero_le _, Nat.zero_le _⟩) hS (fun H locs hH hS => ?_)
      refine lv_istore (lv' := [(4, .int r8), (0, .ref (E.2.1 147)), (1, .int a1), (2, .int a2), (3, .int x3)]) hx hb dX12_lacking_36 hl (by decide) rfl (fun ls hl => ?_)
      refine lv_iload_n hx hb dX12_lacking_38 rfl (lv_at hl 3 rfl) ?_
      refine lv_if_ne (tgt := 47) hx hb dX12_lacking_39 (by decide) (fun c10 => ?_) (fun c10 => ?_)
      · have hf := mt_ifF c10 hf
        refine lv_aload_n hx hb dX12_lacking_47 rfl (lv_at hl 1 rfl) ?_
        refine mt_geti (C := RX12) (T := TX12) (N := 29) hx hb hts hinX12 hown hI hH mt_T147 rfl 24 (by decide) kw0 rfl rfl dX12_lacking_48 ?_
        obtain ⟨i1, i2⟩ := mt_so2 hf
        subst i1
        subst i2
        exact mt_iret hx hb hr hI hH hS hlocks dX12_lacking_51
      · have hf := mt_ifT c10 hf
        refine lv_iload hx hb dX12_lacking_42 (lv_at hl 0 rfl) ?_
        refine lv_goto (tgt := 51) hx hb dX12_lacking_44 (by decide) ?_
        obtain ⟨i1, i2⟩ := mt_so2 hf
        subst i1
        subst i2
        exact mt_iret hx hb hr hI hH hS hlocks dX12_lacking_51
    · have hf := mt_ifF c6 hf
      refine lv_aload_n hx hb dX12_lacking_25 rfl (lv_at hl 0 rfl) ?_
      refine lv_iload_n hx hb dX12_lacking_26 rfl (lv_at hl 3 rfl) ?_
      refine mt_b2I hf (fun r12 M13 hg11 hf => ?_)
      refine mt_goi (mt_runV (i := 147) (As := [.int x3]) (rest := []) ⟨hx, hb, hml, hown, hts⟩ hI hH (c_X12_no l E x3 M u _ _ hg11) (cwV 1 hts gX12_lacking_X12_no rfl rfl rfl (by decide +kernel) ⟨Nat.le_of_ble_eq_true rfl, Nat.le_of_ble_eq_true rfl⟩) mt_T147 rfl rfl hl.1 rfl (Nat.le_of_ble_eq_true rfl) dX12_lacking_27 ⟨Nat.zero_le _, Nat.zero_le _⟩) hS (fun H locs hH hS => ?_)
      obtain ⟨i1, i2⟩ := mt_so2 hf
      subst i1
      subst i2
      exact mt_iret hx hb hr hI hH hS hlocks dX12_lacking_30
  · intro j4 hj5 hf
    refine lv_if_ne (tgt := 21) hx hb dX12_lacking_6 (by decide) (fun c14 => ?_) (fun c14 => ?_)
    · have hf := mt_ifF c14 hf
      exact hj5 r2 hf _ _ _ hH hS (lv_sub hl [1, 2, 3, 0] rfl)
    · have hf := mt_ifT c14 hf
      refine lv_iload_n hx hb dX12_lacking_9 rfl (lv_at hl 3 rfl) ?_
      refine lv_iconst (v := 0) hx hb dX12_lacking_10 (by decide) ?_
      refine lv_iconst (v := 1) hx hb dX12_lacking_11 (by decide) ?_
      refine mt_b1I hf (fun r16 hg15 hf => ?_)
      refine mt_goi (mt_runS (As := [.int a2, .int (0 : Int32), .int (1 : Int32)]) (rest := []) ⟨hx, hb, hml, hown, hts⟩ hI hH (c_X12_isIn l E a2 (0 : Int32) (1 : Int32) M u _ hg15) (va_cwS 3 hts gX12_lacking_X12_isIn rfl rfl rfl (by decide +kernel) ⟨Nat.le_of_ble_eq_true rfl, Nat.le_of_ble_eq_true rfl⟩) rfl hl.1 rfl (Nat.le_of_ble_eq_true rfl) dX12_lacking_12 ⟨Nat.zero_le _, Nat.zero_le _⟩) hS (fun H locs hH hS => ?_)
      refine lv_if_ne (tgt := 21) hx hb dX12_lacking_15 (by decide) (fun c17 => ?_) (fun c17 => ?_)
      · have hf := mt_ifF c17 hf
        exact hj5 r2 hf _ _ _ hH hS (lv_sub hl [1, 2, 3, 0] rfl)
      · have hf := mt_ifT c17 hf
        refine lv_bipush (v := (-2)) hx hb dX12_lacking_18 (by decide) ?_
        refine lv_istore_n (lv' := [(3, .int (-2 : Int32)), (0, .ref (E.2.1 147)), (1, .int a1), (2, .int a2)]) hx hb dX12_lacking_20 rfl hl (by decide) rfl (fun ls hl => ?_)
        exact hj5 (-2 : Int32) hf _ _ _ hH hS (lv_sub hl [1, 2, 3, 0] rfl)
set_option maxHeartbeats 4000000 in
set_option maxRecDepth 100000 in
theorem c_X12_firstLack (l : Launch) (E : mt_E) (a1 : Int32) (M : mt_M) (u : mt_U) (r : Int32) (M' : mt_M) (hf : f_X12_firstLack a1 M = some (r, M')) : Met l yX12_firstLack wsX12_firstLack ({ frames := 3, cells := 0, slots := 0, locals := 64 } : Room) (mt_P E [.ref (E.2.1 147), .int a1] M u) (mt_Qi E r M' u) 0 0 (mt_A E) := by
  refine Met.ofW (cc := cX12_firstLack) (maxL := 4) (ret := (some .int)) (by decide) rfl ?_
  intro p e s mid args below meth c0 s₁ B hml hv
  obtain ⟨rfl, hI, hH⟩ := hv
  have hx := B.exec
  have hb := B.bytes
  have hr := B.returns
  have hts := atoms_spec (ws := wsX12_firstLack) B.pre
  have hown : s.vm.findClass RX12 = some mid.cls := findClass_of_methodNamed B.named
  have hlocks := B.notSynchronized
  have hS : va_S (mt_A E) s.heap s.heap [] := va_S.rf
  have hl := lv_entry ([.ref (E.2.1 147), .int a1]) (n := 4) (Nat.le_of_ble_eq_true rfl)
  rw [lg_entry_eq]
  generalize (lg_sl ([.ref (E.2.1 147), .int a1]) ++ List.replicate (4 - (lg_sl ([.ref (E.2.1 147), .int a1])).length) Slot.unset).toArray = ls at hl ⊢
  have hl : lv_has ls 4 [(0, .ref (E.2.1 147)), (1, .int a1)] := hl
  unfold f_X12_firstLack at hf
  refine lv_aload_n hx hb dX12_firstLack_0 rfl (lv_at hl 0 rfl) ?_
  refine mt_b1I hf (fun M2 hg1 hf => ?_)
  refine mt_gov (mt_runV (i := 147) (As := []) (rest := []) ⟨hx, hb, hml, hown, hts⟩ hI hH (c_X12_thinks l E M u _ hg1) (cwV 0 hts gX12_firstLack_X12_thinks rfl rfl rfl (by decide +kernel) ⟨Nat.le_of_ble_eq_true rfl, Nat.le_of_ble_eq_true rfl⟩) mt_T147 rfl rfl hl.1 rfl (Nat.le_of_ble_eq_true rfl) dX12_firstLack_1 ⟨Nat.zero_le _, Nat.zero_le _⟩) hS (fun H locs hH hS => ?_)
  refine lv_bipush (v := (-9)) hx hb dX12_firstLack_4 (by decide) ?_
  refine lv_istore_n (lv' := [(2, .int (-9 : Int32)), (0, .ref (E.2.1 147)), (1, .int a1)]) hx hb dX12_firstLack_6 rfl hl (by decide) rfl (fun ls hl => ?_)
  refine lv_iconst (v := 1) hx hb dX12_firstLack_7 (by decide) ?_
  refine lv_istore_n (lv' := [(3, .int (1 : Int32)), (2, .int (-9 : Int32)), (0, .ref (E.2.1 147)), (1, .int a1)]) hx hb dX12_firstLack_8 rfl hl (by decide) rfl (fun ls hl => ?_)
  refine mt_lpI3 hf (fun (x3 : Int32) (x4 : Int32) (M5 : mt_M) => ∀ (H : Heap) (locs : List Loc) (ls : Array Slot), mt_H E M5 u H → va_S (mt_A E) s.heap H locs → lv_has ls 4 [(0, .ref (E.2.1 147)), (1, .int a1), (2, .int x3), (3, .int x4)] → W p l e (headSpec wsX12_firstLack ({ frames := 3, cells := 0, slots := 0, locals := 64 } : Room)).room s mid (([.ref (E.2.1 147), .int a1] : List Value).toArray) below meth c0 H locs 0 0 (MQ below (mt_Qi E r M' u) (([.ref (E.2.1 147), .int a1] : List Value).toArray) s 0 0 (mt_A E)) (F0 mid 9 ls [])) ?_ _ _ _ hH hS (lv_sub hl [2, 3, 1, 0] rfl)
  intro k6 ih7 x3 x4 M5 hf H locs ls hH hS hl
  refine lv_iload_n hx hb dX12_firstLack_9 rfl (lv_at hl 3 rfl) ?_
  refine lv_bipush (v := 60) hx hb dX12_firstLack_10 (by decide) ?_
  refine mt_jn0 hf (∀ (H : Heap) (locs : List Loc) (ls : Array Slot), mt_H E M5 u H → va_S (mt_A E) s.heap H locs → lv_has ls 4 [(0, .ref (E.2.1 147)), (2, .int x3)] → W p l e (headSpec wsX12_firstLack ({ frames := 3, cells := 0, slots := 0, locals := 64 } : Room)).room s mid (([.ref (E.2.1 147), .int a1] : List Value).toArray) below meth c0 H locs 0 0 (MQ below (mt_Qi E r M' u) (([.ref (E.2.1 147), .int a1] : List Value).toArray) s 0 0 (mt_A E)) (F0 mid 40 ls [])) ?_ ?_
  · intro hf H locs ls hH hS hl
    refine lv_aload_n hx hb dX12_firstLack_40 rfl (lv_at hl 0 rfl) ?_
    refine mt_b1I hf (fun M11 hg10 hf => ?_)
    refine mt_gov (mt_runV (i := 147) (As := []) (rest := []) ⟨hx, hb, hml, hown, hts⟩ hI hH (c_X12_forgets l E M5 u _ hg10) (cwV 0 hts gX12_firstLack_X12_forgets rfl rfl rfl (by decide +kernel) ⟨Nat.le_of_ble_eq_true rfl, Nat.le_of_ble_eq_true rfl⟩) mt_T147 rfl rfl hl.1 rfl (Nat.le_of_ble_eq_true rfl) dX12_firstLack_41 ⟨Nat.zero_le _, Nat.zero_le _⟩) hS (fun H locs hH hS => ?_)
    refine lv_iload_n hx hb dX12_firstLack_44 rfl (lv_at hl 1 rfl) ?_
    obtain ⟨i1, i2⟩ := mt_so2 hf
    subst i1
    subst i2
    exact mt_iret hx hb hr hI hH hS hlocks dX12_firstLack_45
  · intro j8 hj9 hf
    refine lv_icmp_gt (tgt := 40) hx hb dX12_firstLack_12 (by decide) (fun c12 => ?_) (fun c12 => ?_)
    · have hf := mt_ifT c12 hf
      exact hj9 hf _ _ _ hH hS (lv_sub hl [0, 2] rfl)
    · have hf := mt_ifF c12 hf
      refine lv_iload_n hx hb dX12_firstLack_15 rfl (lv_at hl 2 rfl) ?_
      refine lv_if_ge (tgt := 40) hx hb dX12_firstLack_16 (by decide) (fun c13 => ?_) (fun c13 => ?_)
      · have hf := mt_ifT c13 hf
        exact hj9 hf _ _ _ hH hS (lv_sub hl [0, 2] rfl)
      · have hf := mt_ifF c13 hf
        refine lv_aload_n hx hb dX12_firstLack_19 rfl (lv_at hl 0 rfl) ?_
        refine lv_iload_n hx hb dX12_firstLack_20 rfl (lv_at hl 1 rfl) ?_
        refine mt_b2I hf (fun r15 M16 hg14 hf => ?_)
        refine mt_goi (mt_runV (i := 147) (As := [.int a1]) (rest := []) ⟨hx, hb, hml, hown, hts⟩ hI hH (c_X12_usesOf l E a1 M5 u _ _ hg14) (cwV 1 hts gX12_firstLack_X12_usesOf rfl rfl rfl (by decide +kernel) ⟨Nat.le_of_ble_eq_true rfl, Nat.le_of_ble_eq_true rfl⟩) mt_T147 rfl rfl hl.1 rfl (Nat.le_of_ble_eq_true rfl) dX12_firstLack_21 ⟨Nat.zero_le _, Nat.zero_le _⟩) hS (fun H locs hH hS => ?_)
        refine mt_jn1 hf (fun (v17 : Int32) => ∀ (H : Heap) (locs : List Loc) (ls : Array Slot), mt_H E M16 u H → va_S (mt_A E) s.heap H locs → lv_has ls 4 [(0, .ref (E.2.1 147)), (1, .int a1), (3, .int x4)] → W p l e (headSpec wsX12_firstLack ({ frames := 3, cells := 0, slots := 0, locals := 64 } : Room)).room s mid (([.ref (E.2.1 147), .int a1] : List Value).toArray) below meth c0 H locs 0 0 (MQ below (mt_Qi E r M' u) (([.ref (E.2.1 147), .int a1] : List Value).toArray) s 0 0 (mt_A E)) (F0 mid 33 ls [.int v17])) ?_ ?_
        · intro v17 hf H locs ls hH hS hl
          refine lv_istore_n (lv' := [(2, .int v17), (0, .ref (E.2.1 147)), (1, .int a1), (3, .int x4)]) hx hb dX12_firstLack_33 rfl hl (by decide) rfl (fun ls hl => ?_)
          refine mt_ltI hf (fun x20 ex20 hf => ?_)
          refine lv_iinc (v := x20) (lv' := [(3, .int x20), (2, .int v17), (0, .ref (E.2.1 147)), (1, .int a1)]) hx hb dX12_firstLack_34 hl (k := 3) rfl (by rw [ex20]; rfl) (by decide) rfl (fun ls hl => ?_)
          refine lv_goto (tgt := 9) hx hb dX12_firstLack_37 (by decide) ?_
          exact ih7 v17 x20 M16 hf _ _ _ hH hS (lv_sub hl [2, 3, 1, 0] rfl)
        · intro j18 hj19 hf
          refine lv_if_le (tgt := 31) hx hb dX12_firstLack_24 (by decide) (fun c21 => ?_) (fun c21 => ?_)
          · have hf := mt_ifT c21 hf
            refine lv_bipush (v := (-9)) hx hb dX12_firstLack_31 (by decide) ?_
            exact hj19 (-9 : Int32) hf _ _ _ hH hS (lv_sub hl [0, 1, 3] rfl)
          · have hf := mt_ifF c21 hf
            refine lv_iload_n hx hb dX12_firstLack_27 rfl (lv_at hl 3 rfl) ?_
            refine lv_goto (tgt := 33) hx hb dX12_firstLack_28 (by decide) ?_
            exact hj19 x4 hf _ _ _ hH hS (lv_sub hl [0, 1, 3] rfl)
set_option maxHeartbeats 4000000 in
set_option maxRecDepth 100000 in
theorem c_X12_runsOut (l : Launch) (E : mt_E) (a1 : Int32) (M : mt_M) (u : mt_U) (r : Int32) (M' : mt_M) (hf : f_X12_runsOut a1 M = some (r, M')) : Met l yX12_runsOut wsX12_runsOut ({ frames := 4, cells := 0, slots := 0, locals := 87 } : Room) (mt_P E [.ref (E.2.1 147), .int a1] M u) (mt_Qi E r M' u) 0 0 (mt_A E) := by
  refine Met.ofW (cc := cX12_runsOut) (maxL := 2) (ret := (some .int)) (by decide) rfl ?_
  intro p e s mid args below meth c0 s₁ B hml hv
  obtain ⟨rfl, hI, hH⟩ := hv
  have hx := B.exec
  have hb := B.bytes
  have hr := B.returns
  have hts := atoms_spec (ws := wsX12_runsOut) B.pre
  have hown : s.vm.findClass RX12 = some mid.cls := findClass_of_methodNamed B.named
  have hlocks := B.notSynchronized
  have hS : va_S (mt_A E) s.heap s.heap [] := va_S.rf
  have hl := lv_entry ([.ref (E.2.1 147), .int a1]) (n := 2) (Nat.le_of_ble_eq_true rfl)
  rw [lg_entry_eq]
  generalize (lg_sl ([.ref (E.2.1 147), .int a1]) ++ List.replicate (2 - (lg_sl ([.ref (E.2.1 147), .int a1])).length) Slot.unset).toArray = ls at hl ⊢
  have hl : lv_has ls 2 [(0, .ref (E.2.1 147)), (1, .int a1)] := hl
  unfold f_X12_runsOut at hf
  refine lv_aload_n hx hb dX12_runsOut_0 rfl (lv_at hl 0 rfl) ?_
  refine lv_iload_n hx hb dX12_runsOut_1 rfl (lv_at hl 1 rfl) ?_
  refine mt_b1I hf (fun r2 hg1 hf => ?_)
  refine mt_goi (mt_runV (i := 147) (As := [.int a1]) (rest := []) ⟨hx, hb, hml, hown, hts⟩ hI hH (c_X12_isThing l E a1 M u _ hg1) (cwV 1 hts gX12_runsOut_X12_isThing rfl rfl rfl (by decide +kernel) ⟨Nat.le_of_ble_eq_true rfl, Nat.le_of_ble_eq_true rfl⟩) mt_T147 rfl rfl hl.1 rfl (Nat.le_of_ble_eq_true rfl) dX12_runsOut_2 ⟨Nat.zero_le _, Nat.zero_le _⟩) hS (fun H locs hH hS => ?_)
  refine lv_if_eq (tgt := 16) hx hb dX12_runsOut_5 (by decide) (fun c3 => ?_) (fun c3 => ?_)
  · have hf := mt_ifT c3 hf
    refine lv_aload_n hx hb dX12_runsOut_16 rfl (lv_at hl 0 rfl) ?_
    refine lv_iconst (v := (-1)) hx hb dX12_runsOut_17 (by decide) ?_
    refine mt_b2I hf (fun r5 M6 hg4 hf => ?_)
    refine mt_goi (mt_runV (i := 147) (As := [.int (-1 : Int32)]) (rest := []) ⟨hx, hb, hml, hown, hts⟩ hI hH (c_X12_no l E (-1 : Int32) M u _ _ hg4) (cwV 1 hts gX12_runsOut_X12_no rfl rfl rfl (by decide +kernel) ⟨Nat.le_of_ble_eq_true rfl, Nat.le_of_ble_eq_true rfl⟩) mt_T147 rfl rfl hl.1 rfl (Nat.le_of_ble_eq_true rfl) dX12_runsOut_18 ⟨Nat.zero_le _, Nat.zero_le _⟩) hS (fun H locs hH hS => ?_)
    obtain ⟨i1, i2⟩ := mt_so2 hf
    subst i1
    subst i2
    exact mt_iret hx hb hr hI hH hS hlocks dX12_runsOut_21
  · have hf := mt_ifF c3 hf
    refine lv_aload_n hx hb dX12_runsOut_8 rfl (lv_at hl 0 rfl) ?_
    refine lv_iload_n hx hb dX12_runsOut_9 rfl (lv_at hl 1 rfl) ?_
    refine mt_b2I hf (fun r8 M9 hg7 hf => ?_)
    refine mt_goi (mt_runV (i := 147) (As := [.int a1]) (rest := []) ⟨hx, hb, hml, hown, hts⟩ hI hH (c_X12_firstLack l E a1 M u _ _ hg7) (cwV 1 hts gX12_runsOut_X12_firstLack rfl rfl rfl (by decide +kernel) ⟨Nat.le_of_ble_eq_true rfl, Nat.le_of_ble_eq_true rfl⟩) mt_T147 rfl rfl hl.1 rfl (Nat.le_of_ble_eq_true rfl) dX12_runsOut_10 ⟨Nat.zero_le _, Nat.zero_le _⟩) hS (fun H locs hH hS => ?_)
    refine lv_goto (tgt := 21) hx hb dX12_runsOut_13 (by decide) ?_
    obtain ⟨i1, i2⟩ := mt_so2 hf
    subst i1
    subst i2
    exact mt_iret hx hb hr hI hH hS hlocks dX12_runsOut_21
set_option maxHeartbeats 4000000 in
set_option maxRecDepth 100000 in
theorem c_X12_firstOut (l : Launch) (E : mt_E)  (M : mt_M) (u : mt_U) (r : Int32) (M' : mt_M) (hf : f_X12_firstOut M = some (r, M')) : Met l yX12_firstOut wsX12_firstOut ({ frames := 4, cells := 0, slots := 0, locals := 87 } : Room) (mt_P E [.ref (E.2.1 147)] M u) (mt_Qi E r M' u) 0 0 (mt_A E) := by
  refine Met.ofW (cc := cX12_firstOut) (maxL := 5) (ret := (some .int)) (by decide) rfl ?_
  intro p e s mid args below meth c0 s₁ B hml hv
  obtain ⟨rfl, hI, hH⟩ := hv
  have hx := B.exec
  have hb := B.bytes
  have hr := B.returns
  have hts := atoms_spec (ws := wsX12_firstOut) B.pre
  have hown : s.vm.findClass RX12 = some mid.cls := findClass_of_methodNamed B.named
  have hlocks := B.notSynchronized
  have hS : va_S (mt_A E) s.heap s.heap [] := va_S.rf
  have hl := lv_entry ([.ref (E.2.1 147)]) (n := 5) (Nat.le_of_ble_eq_true rfl)
  rw [lg_entry_eq]
  generalize (lg_sl ([.ref (E.2.1 147)]) ++ List.replicate (5 - (lg_sl ([.ref (E.2.1 147)])).length) Slot.unset).toArray = ls at hl ⊢
  have hl : lv_has ls 5 [(0, .ref (E.2.1 147))] := hl
  unfold f_X12_firstOut at hf
  have kw0 := hts (.fieldLink RX12 59 "MilkTwiceModel" "things" "I") (List.mem_of_getElem? (i := 1) rfl)
  have hinX12 : ∀ w ∈ u_ws RX12 TX12 29, w ∈ wsX12_firstOut := fun w h => List.mem_cons_of_mem _ (List.mem_append_right _ h)
  refine lv_bipush (v := (-9)) hx hb dX12_firstOut_0 (by decide) ?_
  refine lv_istore_n (lv' := [(1, .int (-9 : Int32)), (0, .ref (E.2.1 147))]) hx hb dX12_firstOut_2 rfl hl (by decide) rfl (fun ls hl => ?_)
  refine lv_bipush (v := 61) hx hb dX12_firstOut_3 (by decide) ?_
  refine lv_istore_n (lv' := [(2, .int (61 : Int32)), (1, .int (-9 : Int32)), (0, .ref (E.2.1 147))]) hx hb dX12_firstOut_5 rfl hl (by decide) rfl (fun ls hl => ?_)
  refine lv_iconst (v := 0) hx hb dX12_firstOut_6 (by decide) ?_
  refine lv_istore_n (lv' := [(3, .int (0 : Int32)), (2, .int (61 : Int32)), (1, .int (-9 : Int32)), (0, .ref (E.2.1 147))]) hx hb dX12_firstOut_7 rfl hl (by decide) rfl (fun ls hl => ?_)
  refine mt_lpI4 hf (fun (x1 : Int32) (x2 : Int32) (x3 : Int32) (M4 : mt_M) => ∀ (H : Heap) (locs : List Loc) (ls : Array Slot), mt_H E M4 u H → va_S (mt_A E) s.heap H locs → lv_has ls 5 [(0, .ref (E.2.1 147)), (1, .int x1), (2, .int x2), (3, .int x3)] → W p l e (headSpec wsX12_firstOut ({ frames := 4, cells := 0, slots := 0, locals := 87 } : Room)).room s mid (([.ref (E.2.1 147)] : List Value).toArray) below meth c0 H locs 0 0 (MQ below (mt_Qi E r M' u) (([.ref (E.2.1 147)] : List Value).toArray) s 0 0 (mt_A E)) (F0 mid 8 ls [])) ?_ _ _ _ hH hS (lv_sub hl [3, 2, 1, 0] rfl)
  intro k5 ih6 x1 x2 x3 M4 hf H locs ls hH hS hl
  refine lv_iload_n hx hb dX12_firstOut_8 rfl (lv_at hl 3 rfl) ?_
  refine lv_aload_n hx hb dX12_firstOut_9 rfl (lv_at hl 0 rfl) ?_
  refine mt_geti (C := RX12) (T := TX12) (N := 29) hx hb hts hinX12 hown hI hH mt_T147 rfl 8 (by decide) kw0 rfl rfl dX12_firstOut_10 ?_
  refine lv_icmp_ge (tgt := 48) hx hb dX12_firstOut_13 (by decide) (fun c7 => ?_) (fun c7 => ?_)
  · have hf := mt_ifT c7 hf
    refine lv_iload_n hx hb dX12_firstOut_48 rfl (lv_at hl 1 rfl) ?_
    obtain ⟨i1, i2⟩ := mt_so2 hf
    subst i1
    subst i2
    exact mt_iret hx hb hr hI hH hS hlocks dX12_firstOut_49
  · have hf := mt_ifF c7 hf
    refine lv_aload_n hx hb dX12_firstOut_16 rfl (lv_at hl 0 rfl) ?_
    refine lv_iload_n hx hb dX12_firstOut_17 rfl (lv_at hl 3 rfl) ?_
    refine mt_b2I hf (fun r9 M10 hg8 hf => ?_)
    refine mt_goi (mt_runV (i := 147) (As := [.int x3]) (rest := []) ⟨hx, hb, hml, hown, hts⟩ hI hH (c_X12_firstLack l E x3 M4 u _ _ hg8) (cwV 1 hts gX12_firstOut_X12_firstLack rfl rfl rfl (by decide +kernel) ⟨Nat.le_of_ble_eq_true rfl, Nat.le_of_ble_eq_true rfl⟩) mt_T147 rfl rfl hl.1 rfl (Nat.le_of_ble_eq_true rfl) dX12_firstOut_18 ⟨Nat.zero_le _, Nat.zero_le _⟩) hS (fun H locs hH hS => ?_)
    refine lv_istore (lv' := [(4, .int r9), (0, .ref (E.2.1 147)), (1, .int x1), (2, .int x2), (3, .int x3)]) hx hb dX12_firstOut_21 hl (by decide) rfl (fun ls hl => ?_)
    refine lv_iload hx hb dX12_firstOut_23 (lv_at hl 0 rfl) ?_
    refine mt_jn2 hf (fun (x11 : Int32) (x12 : Int32) => ∀ (H : Heap) (locs : List Loc) (ls : Array Slot), mt_H E M10 u H → va_S (mt_A E) s.heap H locs → lv_has ls 5 [(0, .ref (E.2.1 147)), (1, .int x11), (2, .int x12), (3, .int x3)] → W p l e (headSpec wsX12_firstOut ({ frames := 4, cells := 0, slots := 0, locals := 87 } : Room)).room s mid (([.ref (E.2.1 147)] : List Value).toArray) below meth c0 H locs 0 0 (MQ below (mt_Qi E r M' u) (([.ref (E.2.1 147)] : List Value).toArray) s 0 0 (mt_A E)) (F0 mid 42 ls [])) ?_ ?_
    · intro x11 x12 hf H locs ls hH hS hl
      refine mt_ltI hf (fun x15 ex15 hf => ?_)
      refine lv_iinc (v := x15) (lv' := [(3, .int x15), (0, .ref (E.2.1 147)), (1, .int x11), (2, .int x12)]) hx hb dX12_firstOut_42 hl (k := 3) rfl (by rw [ex15]; rfl) (by decide) rfl (fun ls hl => ?_)
      refine lv_goto (tgt := 8) hx hb dX12_firstOut_45 (by decide) ?_
      exact ih6 x11 x12 x15 M10 hf _ _ _ hH hS (lv_sub hl [1, 2, 3, 0] rfl)
    · intro j13 hj14 hf
      refine lv_if_lt (tgt := 42) hx hb dX12_firstOut_25 (by decide) (fun c16 => ?_) (fun c16 => ?_)
      · have hf := mt_ifT c16 hf
        exact hj14 x1 x2 hf _ _ _ hH hS (lv_sub hl [1, 2, 3, 4] rfl)
      · have hf := mt_ifF c16 hf
        refine lv_iload hx hb dX12_firstOut_28 (lv_at hl 0 rfl) ?_
        refine lv_iload_n hx hb dX12_firstOut_30 rfl (lv_at hl 3 rfl) ?_
        refine lv_icmp_lt (tgt := 37) hx hb dX12_firstOut_31 (by decide) (fun c17 => ?_) (fun c17 => ?_)
        · have hf := mt_ifT c17 hf
          refine lv_iload_n hx hb dX12_firstOut_37 rfl (lv_at hl 4 rfl) ?_
          refine lv_istore_n (lv' := [(1, .int x3), (4, .int r9), (0, .ref (E.2.1 147)), (2, .int x2), (3, .int x3)]) hx hb dX12_firstOut_38 rfl hl (by decide) rfl (fun ls hl => ?_)
          refine lv_iload hx hb dX12_firstOut_39 (lv_at hl 1 rfl) ?_
          refine lv_istore_n (lv' := [(2, .int r9), (1, .int x3), (4, .int r9), (0, .ref (E.2.1 147)), (3, .int x3)]) hx hb dX12_firstOut_41 rfl hl (by decide) rfl (fun ls hl => ?_)
          exact hj14 x3 r9 hf _ _ _ hH hS (lv_sub hl [3, 1, 0, 4] rfl)
        · have hf := mt_ifF c17 hf
          refine lv_goto (tgt := 42) hx hb dX12_firstOut_34 (by decide) ?_
          exact hj14 x1 x2 hf _ _ _ hH hS (lv_sub hl [1, 2, 3, 4] rfl)
set_option maxHeartbeats 4000000 in
set_option maxRecDepth 100000 in
theorem c_X12_suffices (l : Launch) (E : mt_E) (a1 : Int32) (a2 : Int32) (a3 : Int32) (M : mt_M) (u : mt_U) (r : Int32) (M' : mt_M) (hf : f_X12_suffices a1 a2 a3 M = some (r, M')) : Met l yX12_suffices wsX12_suffices ({ frames := 3, cells := 0, slots := 0, locals := 64 } : Room) (mt_P E [.ref (E.2.1 147), .int a1, .int a2, .int a3] M u) (mt_Qi E r M' u) 0 0 (mt_A E) := by
  refine Met.ofW (cc := cX12_suffices) (maxL := 6) (ret := (some .boolean)) (by decide) rfl ?_
  intro p e s mid args below meth c0 s₁ B hml hv
  obtain ⟨rfl, hI, hH⟩ := hv
  have hx := B.exec
  have hb := B.bytes
  have hr := B.returns
  have hts := atoms_spec (ws := wsX12_suffices) B.pre
  have hown : s.vm.findClass RX12 = some mid.cls := findClass_of_methodNamed B.named
  have hlocks := B.notSynchronized
  have hS : va_S (mt_A E) s.heap s.heap [] := va_S.rf
  have hl := lv_entry ([.ref (E.2.1 147), .int a1, .int a2, .int a3]) (n := 6) (Nat.le_of_ble_eq_true rfl)
  rw [lg_entry_eq]
  generalize (lg_sl ([.ref (E.2.1 147), .int a1, .int a2, .int a3]) ++ List.replicate (6 - (lg_sl ([.ref (E.2.1 147), .int a1, .int a2, .int a3])).length) Slot.unset).toArray = ls at hl ⊢
  have hl : lv_has ls 6 [(0, .ref (E.2.1 147)), (1, .int a1), (2, .int a2), (3, .int a3)] := hl
  unfold f_X12_suffices at hf
  refine lv_aload_n hx hb dX12_suffices_0 rfl (lv_at hl 0 rfl) ?_
  refine mt_b1I hf (fun M2 hg1 hf => ?_)
  refine mt_gov (mt_runV (i := 147) (As := []) (rest := []) ⟨hx, hb, hml, hown, hts⟩ hI hH (c_X12_thinks l E M u _ hg1) (cwV 0 hts gX12_suffices_X12_thinks rfl rfl rfl (by decide +kernel) ⟨Nat.le_of_ble_eq_true rfl, Nat.le_of_ble_eq_true rfl⟩) mt_T147 rfl rfl hl.1 rfl (Nat.le_of_ble_eq_true rfl) dX12_suffices_1 ⟨Nat.zero_le _, Nat.zero_le _⟩) hS (fun H locs hH hS => ?_)
  refine lv_iconst (v := 0) hx hb dX12_suffices_4 (by decide) ?_
  refine lv_istore (lv' := [(4, .int (0 : Int32)), (0, .ref (E.2.1 147)), (1, .int a1), (2, .int a2), (3, .int a3)]) hx hb dX12_suffices_5 hl (by decide) rfl (fun ls hl => ?_)
  refine mt_lpI2 hf (fun (x3 : Int32) (M4 : mt_M) => ∀ (H : Heap) (locs : List Loc) (ls : Array Slot), mt_H E M4 u H → va_S (mt_A E) s.heap H locs → lv_has ls 6 [(0, .ref (E.2.1 147)), (1, .int a1), (2, .int a2), (3, .int a3), (4, .int x3)] → W p l e (headSpec wsX12_suffices ({ frames := 3, cells := 0, slots := 0, locals := 64 } : Room)).room s mid (([.ref (E.2.1 147), .int a1, .int a2, .int a3] : List Value).toArray) below meth c0 H locs 0 0 (MQ below (mt_Qi E r M' u) (([.ref (E.2.1 147), .int a1, .int a2, .int a3] : List Value).toArray) s 0 0 (mt_A E)) (F0 mid 7 ls [])) ?_ _ _ _ hH hS (lv_sub hl [1, 2, 3, 4, 0] rfl)
  intro k5 ih6 x3 M4 hf H locs ls hH hS hl
  refine lv_iload hx hb dX12_suffices_7 (lv_at hl 4 rfl) ?_
  refine lv_iload_n hx hb dX12_suffices_9 rfl (lv_at hl 2 rfl) ?_
  refine lv_icmp_ge (tgt := 24) hx hb dX12_suffices_10 (by decide) (fun c7 => ?_) (fun c7 => ?_)
  · have hf := mt_ifT c7 hf
    refine lv_iconst (v := 1) hx hb dX12_suffices_24 (by decide) ?_
    refine lv_istore (lv' := [(4, .int (1 : Int32)), (0, .ref (E.2.1 147)), (1, .int a1), (2, .int a2), (3, .int a3)]) hx hb dX12_suffices_25 hl (by decide) rfl (fun ls hl => ?_)
    refine lv_iconst (v := 0) hx hb dX12_suffices_27 (by decide) ?_
    refine lv_istore (lv' := [(5, .int (0 : Int32)), (4, .int (1 : Int32)), (0, .ref (E.2.1 147)), (1, .int a1), (2, .int a2), (3, .int a3)]) hx hb dX12_suffices_28 hl (by decide) rfl (fun ls hl => ?_)
    refine mt_lpI3 hf (fun (x8 : Int32) (x9 : Int32) (M10 : mt_M) => ∀ (H : Heap) (locs : List Loc) (ls : Array Slot), mt_H E M10 u H → va_S (mt_A E) s.heap H locs → lv_has ls 6 [(0, .ref (E.2.1 147)), (1, .int a1), (3, .int a3), (4, .int x8), (5, .int x9)] → W p l e (headSpec wsX12_suffices ({ frames := 3, cells := 0, slots := 0, locals := 64 } : Room)).room s mid (([.ref (E.2.1 147), .int a1, .int a2, .int a3] : List Value).toArray) below meth c0 H locs 0 0 (MQ below (mt_Qi E r M' u) (([.ref (E.2.1 147), .int a1, .int a2, .int a3] : List Value).toArray) s 0 0 (mt_A E)) (F0 mid 30 ls [])) ?_ _ _ _ hH hS (lv_sub hl [2, 3, 5, 1, 0] rfl)
    intro k11 ih12 x8 x9 M10 hf H locs ls hH hS hl
    refine lv_iload hx hb dX12_suffices_30 (lv_at hl 4 rfl) ?_
    refine lv_iload_n hx hb dX12_suffices_32 rfl (lv_at hl 2 rfl) ?_
    refine mt_jn0 hf (∀ (H : Heap) (locs : List Loc) (ls : Array Slot), mt_H E M10 u H → va_S (mt_A E) s.heap H locs → lv_has ls 6 [(0, .ref (E.2.1 147)), (4, .int x8)] → W p l e (headSpec wsX12_suffices ({ frames := 3, cells := 0, slots := 0, locals := 64 } : Room)).room s mid (([.ref (E.2.1 147), .int a1, .int a2, .int a3] : List Value).toArray) below meth c0 H locs 0 0 (MQ below (mt_Qi E r M' u) (([.ref (E.2.1 147), .int a1, .int a2, .int a3] : List Value).toArray) s 0 0 (mt_A E)) (F0 mid 62 ls [])) ?_ ?_
    · intro hf H locs ls hH hS hl
      refine lv_aload_n hx hb dX12_suffices_62 rfl (lv_at hl 0 rfl) ?_
      refine mt_b1I hf (fun M16 hg15 hf => ?_)
      refine mt_gov (mt_runV (i := 147) (As := []) (rest := []) ⟨hx, hb, hml, hown, hts⟩ hI hH (c_X12_forgets l E M10 u _ hg15) (cwV 0 hts gX12_suffices_X12_forgets rfl rfl rfl (by decide +kernel) ⟨Nat.le_of_ble_eq_true rfl, Nat.le_of_ble_eq_true rfl⟩) mt_T147 rfl rfl hl.1 rfl (Nat.le_of_ble_eq_true rfl) dX12_suffices_63 ⟨Nat.zero_le _, Nat.zero_le _⟩) hS (fun H locs hH hS => ?_)
      refine lv_iload hx hb dX12_suffices_66 (lv_at hl 1 rfl) ?_
      refine mt_ckI hf (fun q17 hf => ?_)
      obtain ⟨i1, i2⟩ := mt_so2 hf
      subst i1
      subst i2
      exact mt_zret hx hb hr hI hH hS q17 hlocks dX12_suffices_68
    · intro j13 hj14 hf
      refine lv_icmp_ge (tgt := 62) hx hb dX12_suffices_33 (by decide) (fun c18 => ?_) (fun c18 => ?_)
      · have hf := mt_ifT c18 hf
        exact hj14 hf _ _ _ hH hS (lv_sub hl [0, 3] rfl)
      · have hf := mt_ifF c18 hf
        refine lv_iload hx hb dX12_suffices_36 (lv_at hl 3 rfl) ?_
        refine lv_if_eq (tgt := 62) hx hb dX12_suffices_38 (by decide) (fun c19 => ?_) (fun c19 => ?_)
        · have hf := mt_ifT c19 hf
          exact hj14 hf _ _ _ hH hS (lv_sub hl [0, 3] rfl)
        · have hf := mt_ifF c19 hf
          refine lv_aload_n hx hb dX12_suffices_41 rfl (lv_at hl 0 rfl) ?_
          refine lv_iload_n hx hb dX12_suffices_42 rfl (lv_at hl 1 rfl) ?_
          refine mt_b2I hf (fun r21 M22 hg20 hf => ?_)
          refine mt_goi (mt_runV (i := 147) (As := [.int a1]) (rest := []) ⟨hx, hb, hml, hown, hts⟩ hI hH (c_X12_usesOf l E a1 M10 u _ _ hg20) (cwV 1 hts gX12_suffices_X12_usesOf rfl rfl rfl (by decide +kernel) ⟨Nat.le_of_ble_eq_true rfl, Nat.le_of_ble_eq_true rfl⟩) mt_T147 rfl rfl hl.1 rfl (Nat.le_of_ble_eq_true rfl) dX12_suffices_43 ⟨Nat.zero_le _, Nat.zero_le _⟩) hS (fun H locs hH hS => ?_)
          refine mt_jn1 hf (fun (v23 : Int32) => ∀ (H : Heap) (locs : List Loc) (ls : Array Slot), mt_H E M22 u H → va_S (mt_A E) s.heap H locs → lv_has ls 6 [(0, .ref (E.2.1 147)), (1, .int a1), (3, .int a3), (5, .int x9)] → W p l e (headSpec wsX12_suffices ({ frames := 3, cells := 0, slots := 0, locals := 64 } : Room)).room s mid (([.ref (E.2.1 147), .int a1, .int a2, .int a3] : List Value).toArray) below meth c0 H locs 0 0 (MQ below (mt_Qi E r M' u) (([.ref (E.2.1 147), .int a1, .int a2, .int a3] : List Value).toArray) s 0 0 (mt_A E)) (F0 mid 54 ls [.int v23])) ?_ ?_
          · intro v23 hf H locs ls hH hS hl
            refine lv_istore (lv' := [(4, .int v23), (0, .ref (E.2.1 147)), (1, .int a1), (3, .int a3), (5, .int x9)]) hx hb dX12_suffices_54 hl (by decide) rfl (fun ls hl => ?_)
            refine mt_ltI hf (fun x26 ex26 hf => ?_)
            refine lv_iinc (v := x26) (lv' := [(5, .int x26), (4, .int v23), (0, .ref (E.2.1 147)), (1, .int a1), (3, .int a3)]) hx hb dX12_suffices_56 hl (k := 4) rfl (by rw [ex26]; rfl) (by decide) rfl (fun ls hl => ?_)
            refine lv_goto (tgt := 30) hx hb dX12_suffices_59 (by decide) ?_
            exact ih12 v23 x26 M22 hf _ _ _ hH hS (lv_sub hl [2, 3, 4, 1, 0] rfl)
          · intro j24 hj25 hf
            refine lv_if_ne (tgt := 53) hx hb dX12_suffices_46 (by decide) (fun c27 => ?_) (fun c27 => ?_)
            · have hf := mt_ifF c27 hf
              refine lv_iconst (v := 0) hx hb dX12_suffices_53 (by decide) ?_
              exact hj25 (0 : Int32) hf _ _ _ hH hS (lv_sub hl [0, 1, 2, 4] rfl)
            · have hf := mt_ifT c27 hf
              refine lv_iconst (v := 1) hx hb dX12_suffices_49 (by decide) ?_
              refine lv_goto (tgt := 54) hx hb dX12_suffices_50 (by decide) ?_
              exact hj25 (1 : Int32) hf _ _ _ hH hS (lv_sub hl [0, 1, 2, 4] rfl)
  · have hf := mt_ifF c7 hf
    refine lv_aload_n hx hb dX12_suffices_13 rfl (lv_at hl 0 rfl) ?_
    refine lv_iload_n hx hb dX12_suffices_14 rfl (lv_at hl 1 rfl) ?_
    refine mt_b1I hf (fun M29 hg28 hf => ?_)
    refine mt_gov (mt_runV (i := 147) (As := [.int a1]) (rest := []) ⟨hx, hb, hml, hown, hts⟩ hI hH (c_X12_gets l E a1 M4 u _ hg28) (cwV 1 hts gX12_suffices_X12_gets rfl rfl rfl (by decide +kernel) ⟨Nat.le_of_ble_eq_true rfl, Nat.le_of_ble_eq_true rfl⟩) mt_T147 rfl rfl hl.1 rfl (Nat.le_of_ble_eq_true rfl) dX12_suffices_15 ⟨Nat.zero_le _, Nat.zero_le _⟩) hS (fun H locs hH hS => ?_)
    refine mt_ltI hf (fun x30 ex30 hf => ?_)
    refine lv_iinc (v := x30) (lv' := [(4, .int x30), (0, .ref (E.2.1 147)), (1, .int a1), (2, .int a2), (3, .int a3)]) hx hb dX12_suffices_18 hl (k := 4) rfl (by rw [ex30]; rfl) (by decide) rfl (fun ls hl => ?_)
    refine lv_goto (tgt := 7) hx hb dX12_suffices_21 (by decide) ?_
    exact ih6 x30 M29 hf _ _ _ hH hS (lv_sub hl [1, 2, 3, 4, 0] rfl)
set_option maxHeartbeats 4000000 in
set_option maxRecDepth 100000 in
theorem c_X12_packsFor (l : Launch) (E : mt_E) (a1 : Int32) (a2 : Int32) (M : mt_M) (u : mt_U) (r : Int32) (M' : mt_M) (hf : f_X12_packsFor a1 a2 M = some (r, M')) : Met l yX12_packsFor wsX12_packsFor ({ frames := 4, cells := 0, slots := 0, locals := 89 } : Room) (mt_P E [.ref (E.2.1 147), .int a1, .int a2] M u) (mt_Qi E r M' u) 0 0 (mt_A E) := by
  refine Met.ofW (cc := cX12_packsFor) (maxL := 4) (ret := (some .int)) (by decide) rfl ?_
  intro p e s mid args below meth c0 s₁ B hml hv
  obtain ⟨rfl, hI, hH⟩ := hv
  have hx := B.exec
  have hb := B.bytes
  have hr := B.returns
  have hts := atoms_spec (ws := wsX12_packsFor) B.pre
  have hown : s.vm.findClass RX12 = some mid.cls := findClass_of_methodNamed B.named
  have hlocks := B.notSynchronized
  have hS : va_S (mt_A E) s.heap s.heap [] := va_S.rf
  have hl := lv_entry ([.ref (E.2.1 147), .int a1, .int a2]) (n := 4) (Nat.le_of_ble_eq_true rfl)
  rw [lg_entry_eq]
  generalize (lg_sl ([.ref (E.2.1 147), .int a1, .int a2]) ++ List.replicate (4 - (lg_sl ([.ref (E.2.1 147), .int a1, .int a2])).length) Slot.unset).toArray = ls at hl ⊢
  have hl : lv_has ls 4 [(0, .ref (E.2.1 147)), (1, .int a1), (2, .int a2)] := hl
  unfold f_X12_packsFor at hf
  refine lv_iconst (v := 0) hx hb dX12_packsFor_0 (by decide) ?_
  refine lv_istore_n (lv' := [(3, .int (0 : Int32)), (0, .ref (E.2.1 147)), (1, .int a1), (2, .int a2)]) hx hb dX12_packsFor_1 rfl hl (by decide) rfl (fun ls hl => ?_)
  refine mt_lpI2 hf (fun (x1 : Int32) (M2 : mt_M) => ∀ (H : Heap) (locs : List Loc) (ls : Array Slot), mt_H E M2 u H → va_S (mt_A E) s.heap H locs → lv_has ls 4 [(0, .ref (E.2.1 147)), (1, .int a1), (2, .int a2), (3, .int x1)] → W p l e (headSpec wsX12_packsFor ({ frames := 4, cells := 0, slots := 0, locals := 89 } : Room)).room s mid (([.ref (E.2.1 147), .int a1, .int a2] : List Value).toArray) below meth c0 H locs 0 0 (MQ below (mt_Qi E r M' u) (([.ref (E.2.1 147), .int a1, .int a2] : List Value).toArray) s 0 0 (mt_A E)) (F0 mid 2 ls [])) ?_ _ _ _ hH hS (lv_sub hl [1, 2, 3, 0] rfl)
  intro k3 ih4 x1 M2 hf H locs ls hH hS hl
  refine lv_iload_n hx hb dX12_packsFor_2 rfl (lv_at hl 3 rfl) ?_
  refine lv_bipush (v := 20) hx hb dX12_packsFor_3 (by decide) ?_
  refine lv_icmp_gt (tgt := 26) hx hb dX12_packsFor_5 (by decide) (fun c5 => ?_) (fun c5 => ?_)
  · have hf := mt_ifT c5 hf
    refine lv_bipush (v := 99) hx hb dX12_packsFor_26 (by decide) ?_
    obtain ⟨i1, i2⟩ := mt_so2 hf
    subst i1
    subst i2
    exact mt_iret hx hb hr hI hH hS hlocks dX12_packsFor_28
  · have hf := mt_ifF c5 hf
    refine lv_aload_n hx hb dX12_packsFor_8 rfl (lv_at hl 0 rfl) ?_
    refine lv_iload_n hx hb dX12_packsFor_9 rfl (lv_at hl 1 rfl) ?_
    refine lv_iload_n hx hb dX12_packsFor_10 rfl (lv_at hl 3 rfl) ?_
    refine lv_iload_n hx hb dX12_packsFor_11 rfl (lv_at hl 2 rfl) ?_
    refine mt_b2I hf (fun r7 M8 hg6 hf => ?_)
    refine mt_goi (mt_runV (i := 147) (As := [.int a1, .int x1, .int a2]) (rest := []) ⟨hx, hb, hml, hown, hts⟩ hI hH (c_X12_suffices l E a1 x1 a2 M2 u _ _ hg6) (cwV 3 hts gX12_packsFor_X12_suffices rfl rfl rfl (by decide +kernel) ⟨Nat.le_of_ble_eq_true rfl, Nat.le_of_ble_eq_true rfl⟩) mt_T147 rfl rfl hl.1 rfl (Nat.le_of_ble_eq_true rfl) dX12_packsFor_12 ⟨Nat.zero_le _, Nat.zero_le _⟩) hS (fun H locs hH hS => ?_)
    refine lv_if_eq (tgt := 20) hx hb dX12_packsFor_15 (by decide) (fun c9 => ?_) (fun c9 => ?_)
    · have hf := mt_ifT c9 hf
      refine mt_ltI hf (fun x10 ex10 hf => ?_)
      refine lv_iinc (v := x10) (lv' := [(3, .int x10), (0, .ref (E.2.1 147)), (1, .int a1), (2, .int a2)]) hx hb dX12_packsFor_20 hl (k := 3) rfl (by rw [ex10]; rfl) (by decide) rfl (fun ls hl => ?_)
      refine lv_goto (tgt := 2) hx hb dX12_packsFor_23 (by decide) ?_
      exact ih4 x10 M8 hf _ _ _ hH hS (lv_sub hl [1, 2, 3, 0] rfl)
    · have hf := mt_ifF c9 hf
      refine lv_iload_n hx hb dX12_packsFor_18 rfl (lv_at hl 3 rfl) ?_
      obtain ⟨i1, i2⟩ := mt_so2 hf
      subst i1
      subst i2
      exact mt_iret hx hb hr hI hH hS hlocks dX12_packsFor_19
set_option maxHeartbeats 4000000 in
set_option maxRecDepth 100000 in
theorem c_X12_buyFor (l : Launch) (E : mt_E) (a1 : Int32) (a2 : Int32) (M : mt_M) (u : mt_U) (r : Int32) (M' : mt_M) (hf : f_X12_buyFor a1 a2 M = some (r, M')) : Met l yX12_buyFor wsX12_buyFor ({ frames := 5, cells := 0, slots := 0, locals := 112 } : Room) (mt_P E [.ref (E.2.1 147), .int a1, .int a2] M u) (mt_Qi E r M' u) 0 0 (mt_A E) := by
  refine Met.ofW (cc := cX12_buyFor) (maxL := 6) (ret := (some .int)) (by decide) rfl ?_
  intro p e s mid args below meth c0 s₁ B hml hv
  obtain ⟨rfl, hI, hH⟩ := hv
  have hx := B.exec
  have hb := B.bytes
  have hr := B.returns
  have hts := atoms_spec (ws := wsX12_buyFor) B.pre
  have hown : s.vm.findClass RX12 = some mid.cls := findClass_of_methodNamed B.named
  have hlocks := B.notSynchronized
  have hS : va_S (mt_A E) s.heap s.heap [] := va_S.rf
  have hl := lv_entry ([.ref (E.2.1 147), .int a1, .int a2]) (n := 6) (Nat.le_of_ble_eq_true rfl)
  rw [lg_entry_eq]
  generalize (lg_sl ([.ref (E.2.1 147), .int a1, .int a2]) ++ List.replicate (6 - (lg_sl ([.ref (E.2.1 147), .int a1, .int a2])).length) Slot.unset).toArray = ls at hl ⊢
  have hl : lv_has ls 6 [(0, .ref (E.2.1 147)), (1, .int a1), (2, .int a2)] := hl
  unfold f_X12_buyFor at hf
  have kw0 := hts (.fieldLink RX12 59 "MilkTwiceModel" "things" "I") (List.mem_of_getElem? (i := 1) rfl)
  have hinX12 : ∀ w ∈ u_ws RX12 TX12 29, w ∈ wsX12_buyFor := fun w h => List.mem_cons_of_mem _ (List.mem_append_right _ h)
  refine lv_iload_n hx hb dX12_buyFor_0 rfl (lv_at hl 1 rfl) ?_
  refine lv_iconst (v := (-1)) hx hb dX12_buyFor_1 (by decide) ?_
  refine mt_jn1 hf (fun (v1 : Int32) => ∀ (H : Heap) (locs : List Loc) (ls : Array Slot), mt_H E M u H → va_S (mt_A E) s.heap H locs → lv_has ls 6 [(0, .ref (E.2.1 147)), (1, .int a1), (2, .int a2)] → W p l e (headSpec wsX12_buyFor ({ frames := 5, cells := 0, slots := 0, locals := 112 } : Room)).room s mid (([.ref (E.2.1 147), .int a1, .int a2] : List Value).toArray) below meth c0 H locs 0 0 (MQ below (mt_Qi E r M' u) (([.ref (E.2.1 147), .int a1, .int a2] : List Value).toArray) s 0 0 (mt_A E)) (F0 mid 24 ls [.int v1])) ?_ ?_
  · intro v1 hf H locs ls hH hS hl
    refine lv_istore_n (lv' := [(3, .int v1), (0, .ref (E.2.1 147)), (1, .int a1), (2, .int a2)]) hx hb dX12_buyFor_24 rfl hl (by decide) rfl (fun ls hl => ?_)
    refine lv_iload_n hx hb dX12_buyFor_25 rfl (lv_at hl 0 rfl) ?_
    refine lv_if_eq (tgt := 35) hx hb dX12_buyFor_26 (by decide) (fun c4 => ?_) (fun c4 => ?_)
    · have hf := mt_ifT c4 hf
      refine lv_iload_n hx hb dX12_buyFor_35 rfl (lv_at hl 2 rfl) ?_
      refine lv_if_lt (tgt := 46) hx hb dX12_buyFor_36 (by decide) (fun c5 => ?_) (fun c5 => ?_)
      · have hf := mt_ifT c5 hf
        refine lv_iconst (v := 0) hx hb dX12_buyFor_46 (by decide) ?_
        refine lv_istore (lv' := [(4, .int (0 : Int32)), (3, .int v1), (0, .ref (E.2.1 147)), (1, .int a1), (2, .int a2)]) hx hb dX12_buyFor_47 hl (by decide) rfl (fun ls hl => ?_)
        refine lv_iconst (v := 0) hx hb dX12_buyFor_49 (by decide) ?_
        refine lv_istore (lv' := [(5, .int (0 : Int32)), (4, .int (0 : Int32)), (3, .int v1), (0, .ref (E.2.1 147)), (1, .int a1), (2, .int a2)]) hx hb dX12_buyFor_50 hl (by decide) rfl (fun ls hl => ?_)
        refine mt_lpI3 hf (fun (x6 : Int32) (x7 : Int32) (M8 : mt_M) => ∀ (H : Heap) (locs : List Loc) (ls : Array Slot), mt_H E M8 u H → va_S (mt_A E) s.heap H locs → lv_has ls 6 [(0, .ref (E.2.1 147)), (2, .int a2), (4, .int x6), (5, .int x7)] → W p l e (headSpec wsX12_buyFor ({ frames := 5, cells := 0, slots := 0, locals := 112 } : Room)).room s mid (([.ref (E.2.1 147), .int a1, .int a2] : List Value).toArray) below meth c0 H locs 0 0 (MQ below (mt_Qi E r M' u) (([.ref (E.2.1 147), .int a1, .int a2] : List Value).toArray) s 0 0 (mt_A E)) (F0 mid 52 ls [])) ?_ _ _ _ hH hS (lv_sub hl [3, 5, 1, 0] rfl)
        intro k9 ih10 x6 x7 M8 hf H locs ls hH hS hl
        refine lv_iload hx hb dX12_buyFor_52 (lv_at hl 3 rfl) ?_
        refine lv_aload_n hx hb dX12_buyFor_54 rfl (lv_at hl 0 rfl) ?_
        refine mt_geti (C := RX12) (T := TX12) (N := 29) hx hb hts hinX12 hown hI hH mt_T147 rfl 8 (by decide) kw0 rfl rfl dX12_buyFor_55 ?_
        refine lv_icmp_ge (tgt := 102) hx hb dX12_buyFor_58 (by decide) (fun c11 => ?_) (fun c11 => ?_)
        · have hf := mt_ifT c11 hf
          refine lv_iload hx hb dX12_buyFor_102 (lv_at hl 2 rfl) ?_
          obtain ⟨i1, i2⟩ := mt_so2 hf
          subst i1
          subst i2
          exact mt_iret hx hb hr hI hH hS hlocks dX12_buyFor_104
        · have hf := mt_ifF c11 hf
          refine lv_iload hx hb dX12_buyFor_61 (lv_at hl 2 rfl) ?_
          refine lv_aload_n hx hb dX12_buyFor_63 rfl (lv_at hl 0 rfl) ?_
          refine lv_iload hx hb dX12_buyFor_64 (lv_at hl 3 rfl) ?_
          refine lv_iload_n hx hb dX12_buyFor_66 rfl (lv_at hl 1 rfl) ?_
          refine mt_b2I hf (fun r13 M14 hg12 hf => ?_)
          refine mt_goi (mt_runV (i := 147) (As := [.int x7, .int a2]) (rest := [.int x6]) ⟨hx, hb, hml, hown, hts⟩ hI hH (c_X12_packsFor l E x7 a2 M8 u _ _ hg12) (cwV 2 hts gX12_buyFor_X12_packsFor rfl rfl rfl (by decide +kernel) ⟨Nat.le_of_ble_eq_true rfl, Nat.le_of_ble_eq_true rfl⟩) mt_T147 rfl rfl hl.1 rfl (Nat.le_of_ble_eq_true rfl) dX12_buyFor_67 ⟨Nat.zero_le _, Nat.zero_le _⟩) hS (fun H locs hH hS => ?_)
          refine lv_bipush (v := 99) hx hb dX12_buyFor_70 (by decide) ?_
          refine mt_jn2 hf (fun (v15 : Int32) (M16 : mt_M) => ∀ (H : Heap) (locs : List Loc) (ls : Array Slot), mt_H E M16 u H → va_S (mt_A E) s.heap H locs → lv_has ls 6 [(0, .ref (E.2.1 147)), (2, .int a2), (5, .int x7)] → W p l e (headSpec wsX12_buyFor ({ frames := 5, cells := 0, slots := 0, locals := 112 } : Room)).room s mid (([.ref (E.2.1 147), .int a1, .int a2] : List Value).toArray) below meth c0 H locs 0 0 (MQ below (mt_Qi E r M' u) (([.ref (E.2.1 147), .int a1, .int a2] : List Value).toArray) s 0 0 (mt_A E)) (F0 mid 93 ls [.int v15, .int x6])) ?_ ?_
          · intro v15 M16 hf H locs ls hH hS hl
            refine lv_iadd hx hb dX12_buyFor_93 ?_
            refine mt_lti hf (fun x19 ex19 hf => ?_)
            refine lv_istore (lv' := [(4, .int x19), (0, .ref (E.2.1 147)), (2, .int a2), (5, .int x7)]) hx hb dX12_buyFor_94 hl (by decide) rfl (fun ls hl => ?_)
            refine mt_ltI hf (fun x20 ex20 hf => ?_)
            refine lv_iinc (v := x20) (lv' := [(5, .int x20), (4, .int x19), (0, .ref (E.2.1 147)), (2, .int a2)]) hx hb dX12_buyFor_96 hl (k := 3) rfl (by rw [ex20]; rfl) (by decide) rfl (fun ls hl => ?_)
            refine lv_goto (tgt := 52) hx hb dX12_buyFor_99 (by decide) ?_
            exact ih10 x19 x20 M16 hf _ _ _ hH hS (lv_sub hl [2, 3, 1, 0] rfl)
          · intro j17 hj18 hf
            refine lv_icmp_ne (tgt := 79) hx hb dX12_buyFor_72 (by decide) (fun c21 => ?_) (fun c21 => ?_)
            · have hf := mt_ifF c21 hf
              refine lv_aload_n hx hb dX12_buyFor_79 rfl (lv_at hl 0 rfl) ?_
              refine lv_iload hx hb dX12_buyFor_80 (lv_at hl 3 rfl) ?_
              refine lv_iload_n hx hb dX12_buyFor_82 rfl (lv_at hl 1 rfl) ?_
              refine mt_b2I hf (fun r23 M24 hg22 hf => ?_)
              refine mt_goi (mt_runV (i := 147) (As := [.int x7, .int a2]) (rest := [.int x6]) ⟨hx, hb, hml, hown, hts⟩ hI hH (c_X12_packsFor l E x7 a2 M14 u _ _ hg22) (cwV 2 hts gX12_buyFor_X12_packsFor rfl rfl rfl (by decide +kernel) ⟨Nat.le_of_ble_eq_true rfl, Nat.le_of_ble_eq_true rfl⟩) mt_T147 rfl rfl hl.1 rfl (Nat.le_of_ble_eq_true rfl) dX12_buyFor_83 ⟨Nat.zero_le _, Nat.zero_le _⟩) hS (fun H locs hH hS => ?_)
              refine lv_aload_n hx hb dX12_buyFor_86 rfl (lv_at hl 0 rfl) ?_
              refine lv_iload hx hb dX12_buyFor_87 (lv_at hl 3 rfl) ?_
              refine mt_b1I hf (fun r26 hg25 hf => ?_)
              refine mt_goi (mt_runV (i := 147) (As := [.int x7]) (rest := [.int r23, .int x6]) ⟨hx, hb, hml, hown, hts⟩ hI hH (c_X12_priceOf l E x7 M24 u _ hg25) (cwV 1 hts gX12_buyFor_X12_priceOf rfl rfl rfl (by decide +kernel) ⟨Nat.le_of_ble_eq_true rfl, Nat.le_of_ble_eq_true rfl⟩) mt_T147 rfl rfl hl.1 rfl (Nat.le_of_ble_eq_true rfl) dX12_buyFor_89 ⟨Nat.zero_le _, Nat.zero_le _⟩) hS (fun H locs hH hS => ?_)
              refine lv_imul hx hb dX12_buyFor_92 ?_
              exact hj18 (r23 * r26) M24 hf _ _ _ hH hS (lv_sub hl [0, 1, 3] rfl)
            · have hf := mt_ifT c21 hf
              refine lv_iconst (v := 0) hx hb dX12_buyFor_75 (by decide) ?_
              refine lv_goto (tgt := 93) hx hb dX12_buyFor_76 (by decide) ?_
              exact hj18 (0 : Int32) M14 hf _ _ _ hH hS (lv_sub hl [0, 1, 3] rfl)
      · have hf := mt_ifF c5 hf
        refine lv_aload_n hx hb dX12_buyFor_39 rfl (lv_at hl 1 rfl) ?_
        refine lv_iload_n hx hb dX12_buyFor_40 rfl (lv_at hl 2 rfl) ?_
        refine lv_iload_n hx hb dX12_buyFor_41 rfl (lv_at hl 3 rfl) ?_
        refine mt_b2I hf (fun r28 M29 hg27 hf => ?_)
        refine mt_goi (mt_runV (i := 147) (As := [.int a1, .int a2]) (rest := []) ⟨hx, hb, hml, hown, hts⟩ hI hH (c_X12_packsFor l E a1 a2 M u _ _ hg27) (cwV 2 hts gX12_buyFor_X12_packsFor rfl rfl rfl (by decide +kernel) ⟨Nat.le_of_ble_eq_true rfl, Nat.le_of_ble_eq_true rfl⟩) mt_T147 rfl rfl hl.1 rfl (Nat.le_of_ble_eq_true rfl) dX12_buyFor_42 ⟨Nat.zero_le _, Nat.zero_le _⟩) hS (fun H locs hH hS => ?_)
        obtain ⟨i1, i2⟩ := mt_so2 hf
        subst i1
        subst i2
        exact mt_iret hx hb hr hI hH hS hlocks dX12_buyFor_45
    · have hf := mt_ifF c4 hf
      refine lv_aload_n hx hb dX12_buyFor_29 rfl (lv_at hl 1 rfl) ?_
      refine lv_iload_n hx hb dX12_buyFor_30 rfl (lv_at hl 0 rfl) ?_
      refine mt_b2I hf (fun r31 M32 hg30 hf => ?_)
      refine mt_goi (mt_runV (i := 147) (As := [.int v1]) (rest := []) ⟨hx, hb, hml, hown, hts⟩ hI hH (c_X12_no l E v1 M u _ _ hg30) (cwV 1 hts gX12_buyFor_X12_no rfl rfl rfl (by decide +kernel) ⟨Nat.le_of_ble_eq_true rfl, Nat.le_of_ble_eq_true rfl⟩) mt_T147 rfl rfl hl.1 rfl (Nat.le_of_ble_eq_true rfl) dX12_buyFor_31 ⟨Nat.zero_le _, Nat.zero_le _⟩) hS (fun H locs hH hS => ?_)
      obtain ⟨i1, i2⟩ := mt_so2 hf
      subst i1
      subst i2
      exact mt_iret hx hb hr hI hH hS hlocks dX12_buyFor_34
  · intro j2 hj3 hf
    refine mt_jn0 hf (∀ (H : Heap) (locs : List Loc) (ls : Array Slot), mt_H E M u H → va_S (mt_A E) s.heap H locs → lv_has ls 6 [(0, .ref (E.2.1 147)), (1, .int a1), (2, .int a2)] → W p l e (headSpec wsX12_buyFor ({ frames := 5, cells := 0, slots := 0, locals := 112 } : Room)).room s mid (([.ref (E.2.1 147), .int a1, .int a2] : List Value).toArray) below meth c0 H locs 0 0 (MQ below (mt_Qi E r M' u) (([.ref (E.2.1 147), .int a1, .int a2] : List Value).toArray) s 0 0 (mt_A E)) (F0 mid 17 ls [])) ?_ ?_
    · intro hf H locs ls hH hS hl
      refine lv_iload_n hx hb dX12_buyFor_17 rfl (lv_at hl 2 rfl) ?_
      refine lv_iconst (v := 1) hx hb dX12_buyFor_18 (by decide) ?_
      refine lv_bipush (v := 30) hx hb dX12_buyFor_19 (by decide) ?_
      refine mt_b1I hf (fun r36 hg35 hf => ?_)
      refine mt_goi (mt_runS (As := [.int a2, .int (1 : Int32), .int (30 : Int32)]) (rest := []) ⟨hx, hb, hml, hown, hts⟩ hI hH (c_X12_bound l E a2 (1 : Int32) (30 : Int32) M u _ hg35) (va_cwS 3 hts gX12_buyFor_X12_bound rfl rfl rfl (by decide +kernel) ⟨Nat.le_of_ble_eq_true rfl, Nat.le_of_ble_eq_true rfl⟩) rfl hl.1 rfl (Nat.le_of_ble_eq_true rfl) dX12_buyFor_21 ⟨Nat.zero_le _, Nat.zero_le _⟩) hS (fun H locs hH hS => ?_)
      exact hj3 r36 hf _ _ _ hH hS (lv_sub hl [0, 1, 2] rfl)
    · intro j33 hj34 hf
      refine lv_icmp_eq (tgt := 17) hx hb dX12_buyFor_2 (by decide) (fun c37 => ?_) (fun c37 => ?_)
      · have hf := mt_ifT c37 hf
        exact hj34 hf _ _ _ hH hS (lv_sub hl [0, 1, 2] rfl)
      · have hf := mt_ifF c37 hf
        refine lv_aload_n hx hb dX12_buyFor_5 rfl (lv_at hl 0 rfl) ?_
        refine lv_iload_n hx hb dX12_buyFor_6 rfl (lv_at hl 1 rfl) ?_
        refine mt_b1I hf (fun r39 hg38 hf => ?_)
        refine mt_goi (mt_runV (i := 147) (As := [.int a1]) (rest := []) ⟨hx, hb, hml, hown, hts⟩ hI hH (c_X12_isThing l E a1 M u _ hg38) (cwV 1 hts gX12_buyFor_X12_isThing rfl rfl rfl (by decide +kernel) ⟨Nat.le_of_ble_eq_true rfl, Nat.le_of_ble_eq_true rfl⟩) mt_T147 rfl rfl hl.1 rfl (Nat.le_of_ble_eq_true rfl) dX12_buyFor_7 ⟨Nat.zero_le _, Nat.zero_le _⟩) hS (fun H locs hH hS => ?_)
        refine lv_if_ne (tgt := 17) hx hb dX12_buyFor_10 (by decide) (fun c40 => ?_) (fun c40 => ?_)
        · have hf := mt_ifF c40 hf
          exact hj34 hf _ _ _ hH hS (lv_sub hl [0, 1, 2] rfl)
        · have hf := mt_ifT c40 hf
          refine lv_iconst (v := (-1)) hx hb dX12_buyFor_13 (by decide) ?_
          refine lv_goto (tgt := 24) hx hb dX12_buyFor_14 (by decide) ?_
          exact hj3 (-1 : Int32) hf _ _ _ hH hS (lv_sub hl [0, 1, 2] rfl)
set_option maxHeartbeats 4000000 in
set_option maxRecDepth 100000 in
theorem c_X12_priceOfAll (l : Launch) (E : mt_E) (a1 : Int32) (M : mt_M) (u : mt_U) (r : Int32) (hf : f_X12_priceOfAll a1 M = some (r)) : Met l yX12_priceOfAll wsX12_priceOfAll ({ frames := 1, cells := 0, slots := 0, locals := 22 } : Room) (mt_P E [.ref (E.2.1 147), .int a1] M u) (mt_Qi E r M u) 0 0 (mt_A E) := by
  refine Met.ofW (cc := cX12_priceOfAll) (maxL := 4) (ret := (some .int)) (by decide) rfl ?_
  intro p e s mid args below meth c0 s₁ B hml hv
  obtain ⟨rfl, hI, hH⟩ := hv
  have hx := B.exec
  have hb := B.bytes
  have hr := B.returns
  have hts := atoms_spec (ws := wsX12_priceOfAll) B.pre
  have hown : s.vm.findClass RX12 = some mid.cls := findClass_of_methodNamed B.named
  have hlocks := B.notSynchronized
  have hS : va_S (mt_A E) s.heap s.heap [] := va_S.rf
  have hl := lv_entry ([.ref (E.2.1 147), .int a1]) (n := 4) (Nat.le_of_ble_eq_true rfl)
  rw [lg_entry_eq]
  generalize (lg_sl ([.ref (E.2.1 147), .int a1]) ++ List.replicate (4 - (lg_sl ([.ref (E.2.1 147), .int a1])).length) Slot.unset).toArray = ls at hl ⊢
  have hl : lv_has ls 4 [(0, .ref (E.2.1 147)), (1, .int a1)] := hl
  unfold f_X12_priceOfAll at hf
  have kw0 := hts (.fieldLink RX12 59 "MilkTwiceModel" "things" "I") (List.mem_of_getElem? (i := 1) rfl)
  have hinX12 : ∀ w ∈ u_ws RX12 TX12 29, w ∈ wsX12_priceOfAll := fun w h => List.mem_cons_of_mem _ (List.mem_append_right _ h)
  refine lv_iconst (v := 0) hx hb dX12_priceOfAll_0 (by decide) ?_
  refine lv_istore_n (lv' := [(2, .int (0 : Int32)), (0, .ref (E.2.1 147)), (1, .int a1)]) hx hb dX12_priceOfAll_1 rfl hl (by decide) rfl (fun ls hl => ?_)
  refine lv_iconst (v := 0) hx hb dX12_priceOfAll_2 (by decide) ?_
  refine lv_istore_n (lv' := [(3, .int (0 : Int32)), (2, .int (0 : Int32)), (0, .ref (E.2.1 147)), (1, .int a1)]) hx hb dX12_priceOfAll_3 rfl hl (by decide) rfl (fun ls hl => ?_)
  refine mt_lpI2 hf (fun (x1 : Int32) (x2 : Int32) => ∀ (H : Heap) (locs : List Loc) (ls : Array Slot), mt_H E M u H → va_S (mt_A E) s.heap H locs → lv_has ls 4 [(0, .ref (E.2.1 147)), (1, .int a1), (2, .int x1), (3, .int x2)] → W p l e (headSpec wsX12_priceOfAll ({ frames := 1, cells := 0, slots := 0, locals := 22 } : Room)).room s mid (([.ref (E.2.1 147), .int a1] : List Value).toArray) below meth c0 H locs 0 0 (MQ below (mt_Qi E r M u) (([.ref (E.2.1 147), .int a1] : List Value).toArray) s 0 0 (mt_A E)) (F0 mid 4 ls [])) ?_ _ _ _ hH hS (lv_sub hl [2, 3, 1, 0] rfl)
  intro k3 ih4 x1 x2 hf H locs ls hH hS hl
  refine lv_iload_n hx hb dX12_priceOfAll_4 rfl (lv_at hl 3 rfl) ?_
  refine lv_aload_n hx hb dX12_priceOfAll_5 rfl (lv_at hl 0 rfl) ?_
  refine mt_geti (C := RX12) (T := TX12) (N := 29) hx hb hts hinX12 hown hI hH mt_T147 rfl 8 (by decide) kw0 rfl rfl dX12_priceOfAll_6 ?_
  refine lv_icmp_ge (tgt := 38) hx hb dX12_priceOfAll_9 (by decide) (fun c5 => ?_) (fun c5 => ?_)
  · have hf := mt_ifT c5 hf
    refine lv_iload_n hx hb dX12_priceOfAll_38 rfl (lv_at hl 2 rfl) ?_
    have i1 := mt_so1 hf
    subst i1
    exact mt_iret hx hb hr hI hH hS hlocks dX12_priceOfAll_39
  · have hf := mt_ifF c5 hf
    refine lv_iload_n hx hb dX12_priceOfAll_12 rfl (lv_at hl 2 rfl) ?_
    refine lv_iload_n hx hb dX12_priceOfAll_13 rfl (lv_at hl 1 rfl) ?_
    refine lv_iload_n hx hb dX12_priceOfAll_14 rfl (lv_at hl 3 rfl) ?_
    refine mt_b1I hf (fun r7 hg6 hf => ?_)
    refine mt_goi (mt_runS (As := [.int a1, .int x2]) (rest := [.int x1]) ⟨hx, hb, hml, hown, hts⟩ hI hH (c_X12_has l E a1 x2 M u _ hg6) (va_cwS 2 hts gX12_priceOfAll_X12_has rfl rfl rfl (by decide +kernel) ⟨Nat.le_of_ble_eq_true rfl, Nat.le_of_ble_eq_true rfl⟩) rfl hl.1 rfl (Nat.le_of_ble_eq_true rfl) dX12_priceOfAll_15 ⟨Nat.zero_le _, Nat.zero_le _⟩) hS (fun H locs hH hS => ?_)
    refine mt_jn1 hf (fun (v8 : Int32) => ∀ (H : Heap) (locs : List Loc) (ls : Array Slot), mt_H E M u H → va_S (mt_A E) s.heap H locs → lv_has ls 4 [(0, .ref (E.2.1 147)), (1, .int a1), (3, .int x2)] → W p l e (headSpec wsX12_priceOfAll ({ frames := 1, cells := 0, slots := 0, locals := 22 } : Room)).room s mid (([.ref (E.2.1 147), .int a1] : List Value).toArray) below meth c0 H locs 0 0 (MQ below (mt_Qi E r M u) (([.ref (E.2.1 147), .int a1] : List Value).toArray) s 0 0 (mt_A E)) (F0 mid 30 ls [.int v8, .int x1])) ?_ ?_
    · intro v8 hf H locs ls hH hS hl
      refine lv_iadd hx hb dX12_priceOfAll_30 ?_
      refine mt_lti hf (fun x11 ex11 hf => ?_)
      refine lv_istore_n (lv' := [(2, .int x11), (0, .ref (E.2.1 147)), (1, .int a1), (3, .int x2)]) hx hb dX12_priceOfAll_31 rfl hl (by decide) rfl (fun ls hl => ?_)
      refine mt_ltI hf (fun x12 ex12 hf => ?_)
      refine lv_iinc (v := x12) (lv' := [(3, .int x12), (2, .int x11), (0, .ref (E.2.1 147)), (1, .int a1)]) hx hb dX12_priceOfAll_32 hl (k := 3) rfl (by rw [ex12]; rfl) (by decide) rfl (fun ls hl => ?_)
      refine lv_goto (tgt := 4) hx hb dX12_priceOfAll_35 (by decide) ?_
      exact ih4 x11 x12 hf _ _ _ hH hS (lv_sub hl [2, 3, 1, 0] rfl)
    · intro j9 hj10 hf
      refine lv_if_eq (tgt := 29) hx hb dX12_priceOfAll_18 (by decide) (fun c13 => ?_) (fun c13 => ?_)
      · have hf := mt_ifT c13 hf
        refine lv_iconst (v := 0) hx hb dX12_priceOfAll_29 (by decide) ?_
        exact hj10 (0 : Int32) hf _ _ _ hH hS (lv_sub hl [0, 1, 3] rfl)
      · have hf := mt_ifF c13 hf
        refine lv_aload_n hx hb dX12_priceOfAll_21 rfl (lv_at hl 0 rfl) ?_
        refine lv_iload_n hx hb dX12_priceOfAll_22 rfl (lv_at hl 3 rfl) ?_
        refine mt_b1I hf (fun r15 hg14 hf => ?_)
        refine mt_goi (mt_runV (i := 147) (As := [.int x2]) (rest := [.int x1]) ⟨hx, hb, hml, hown, hts⟩ hI hH (c_X12_priceOf l E x2 M u _ hg14) (cwV 1 hts gX12_priceOfAll_X12_priceOf rfl rfl rfl (by decide +kernel) ⟨Nat.le_of_ble_eq_true rfl, Nat.le_of_ble_eq_true rfl⟩) mt_T147 rfl rfl hl.1 rfl (Nat.le_of_ble_eq_true rfl) dX12_priceOfAll_23 ⟨Nat.zero_le _, Nat.zero_le _⟩) hS (fun H locs hH hS => ?_)
        refine lv_goto (tgt := 30) hx hb dX12_priceOfAll_26 (by decide) ?_
        exact hj10 r15 hf _ _ _ hH hS (lv_sub hl [0, 1, 3] rfl)
set_option maxHeartbeats 4000000 in
set_option maxRecDepth 100000 in
theorem c_X12_lackingWith (l : Launch) (E : mt_E) (a1 : Int32) (M : mt_M) (u : mt_U) (r : Int32) (M' : mt_M) (hf : f_X12_lackingWith a1 M = some (r, M')) : Met l yX12_lackingWith wsX12_lackingWith ({ frames := 4, cells := 0, slots := 0, locals := 91 } : Room) (mt_P E [.ref (E.2.1 147), .int a1] M u) (mt_Qi E r M' u) 0 0 (mt_A E) := by
  refine Met.ofW (cc := cX12_lackingWith) (maxL := 3) (ret := (some .int)) (by decide) rfl ?_
  intro p e s mid args below meth c0 s₁ B hml hv
  obtain ⟨rfl, hI, hH⟩ := hv
  have hx := B.exec
  have hb := B.bytes
  have hr := B.returns
  have hts := atoms_spec (ws := wsX12_lackingWith) B.pre
  have hown : s.vm.findClass RX12 = some mid.cls := findClass_of_methodNamed B.named
  have hlocks := B.notSynchronized
  have hS : va_S (mt_A E) s.heap s.heap [] := va_S.rf
  have hl := lv_entry ([.ref (E.2.1 147), .int a1]) (n := 3) (Nat.le_of_ble_eq_true rfl)
  rw [lg_entry_eq]
  generalize (lg_sl ([.ref (E.2.1 147), .int a1]) ++ List.replicate (3 - (lg_sl ([.ref (E.2.1 147), .int a1])).length) Slot.unset).toArray = ls at hl ⊢
  have hl : lv_has ls 3 [(0, .ref (E.2.1 147)), (1, .int a1)] := hl
  unfold f_X12_lackingWith at hf
  have kw0 := hts (.fieldLink RX12 59 "MilkTwiceModel" "things" "I") (List.mem_of_getElem? (i := 1) rfl)
  have hinX12 : ∀ w ∈ u_ws RX12 TX12 29, w ∈ wsX12_lackingWith := fun w h => List.mem_cons_of_mem _ (List.mem_append_right _ h)
  refine lv_aload_n hx hb dX12_lackingWith_0 rfl (lv_at hl 0 rfl) ?_
  refine lv_iconst (v := 1) hx hb dX12_lackingWith_1 (by decide) ?_
  refine lv_iconst (v := 1) hx hb dX12_lackingWith_2 (by decide) ?_
  refine mt_b1I hf (fun M2 hg1 hf => ?_)
  refine mt_gov (mt_runV (i := 147) (As := [.int (1 : Int32), .int (1 : Int32)]) (rest := []) ⟨hx, hb, hml, hown, hts⟩ hI hH (c_X12_passesAll l E (1 : Int32) (1 : Int32) M u _ hg1) (cwV 2 hts gX12_lackingWith_X12_passesAll rfl rfl rfl (by decide +kernel) ⟨Nat.le_of_ble_eq_true rfl, Nat.le_of_ble_eq_true rfl⟩) mt_T147 rfl rfl hl.1 rfl (Nat.le_of_ble_eq_true rfl) dX12_lackingWith_3 ⟨Nat.zero_le _, Nat.zero_le _⟩) hS (fun H locs hH hS => ?_)
  refine lv_iconst (v := 0) hx hb dX12_lackingWith_6 (by decide) ?_
  refine lv_istore_n (lv' := [(2, .int (0 : Int32)), (0, .ref (E.2.1 147)), (1, .int a1)]) hx hb dX12_lackingWith_7 rfl hl (by decide) rfl (fun ls hl => ?_)
  refine mt_lpI2 hf (fun (x3 : Int32) (M4 : mt_M) => ∀ (H : Heap) (locs : List Loc) (ls : Array Slot), mt_H E M4 u H → va_S (mt_A E) s.heap H locs → lv_has ls 3 [(0, .ref (E.2.1 147)), (1, .int a1), (2, .int x3)] → W p l e (headSpec wsX12_lackingWith ({ frames := 4, cells := 0, slots := 0, locals := 91 } : Room)).room s mid (([.ref (E.2.1 147), .int a1] : List Value).toArray) below meth c0 H locs 0 0 (MQ below (mt_Qi E r M' u) (([.ref (E.2.1 147), .int a1] : List Value).toArray) s 0 0 (mt_A E)) (F0 mid 8 ls [])) ?_ _ _ _ hH hS (lv_sub hl [1, 2, 0] rfl)
  intro k5 ih6 x3 M4 hf H locs ls hH hS hl
  refine lv_iload_n hx hb dX12_lackingWith_8 rfl (lv_at hl 2 rfl) ?_
  refine lv_aload_n hx hb dX12_lackingWith_9 rfl (lv_at hl 0 rfl) ?_
  refine mt_geti (C := RX12) (T := TX12) (N := 29) hx hb hts hinX12 hown hI hH mt_T147 rfl 8 (by decide) kw0 rfl rfl dX12_lackingWith_10 ?_
  refine lv_icmp_ge (tgt := 35) hx hb dX12_lackingWith_13 (by decide) (fun c7 => ?_) (fun c7 => ?_)
  · have hf := mt_ifT c7 hf
    refine lv_aload_n hx hb dX12_lackingWith_35 rfl (lv_at hl 0 rfl) ?_
    refine lv_bipush (v := 7) hx hb dX12_lackingWith_36 (by decide) ?_
    refine mt_b2I hf (fun r9 M10 hg8 hf => ?_)
    refine mt_goi (mt_runV (i := 147) (As := [.int (7 : Int32)]) (rest := []) ⟨hx, hb, hml, hown, hts⟩ hI hH (c_X12_lackingIn l E (7 : Int32) M4 u _ _ hg8) (cwV 1 hts gX12_lackingWith_X12_lackingIn rfl rfl rfl (by decide +kernel) ⟨Nat.le_of_ble_eq_true rfl, Nat.le_of_ble_eq_true rfl⟩) mt_T147 rfl rfl hl.1 rfl (Nat.le_of_ble_eq_true rfl) dX12_lackingWith_38 ⟨Nat.zero_le _, Nat.zero_le _⟩) hS (fun H locs hH hS => ?_)
    refine lv_istore_n (lv' := [(2, .int r9), (0, .ref (E.2.1 147)), (1, .int a1)]) hx hb dX12_lackingWith_41 rfl hl (by decide) rfl (fun ls hl => ?_)
    refine lv_aload_n hx hb dX12_lackingWith_42 rfl (lv_at hl 1 rfl) ?_
    refine lv_iconst (v := 1) hx hb dX12_lackingWith_43 (by decide) ?_
    refine lv_iconst (v := 0) hx hb dX12_lackingWith_44 (by decide) ?_
    refine mt_b1I hf (fun M12 hg11 hf => ?_)
    refine mt_gov (mt_runV (i := 147) (As := [.int (1 : Int32), .int (0 : Int32)]) (rest := []) ⟨hx, hb, hml, hown, hts⟩ hI hH (c_X12_passesAll l E (1 : Int32) (0 : Int32) M10 u _ hg11) (cwV 2 hts gX12_lackingWith_X12_passesAll rfl rfl rfl (by decide +kernel) ⟨Nat.le_of_ble_eq_true rfl, Nat.le_of_ble_eq_true rfl⟩) mt_T147 rfl rfl hl.1 rfl (Nat.le_of_ble_eq_true rfl) dX12_lackingWith_45 ⟨Nat.zero_le _, Nat.zero_le _⟩) hS (fun H locs hH hS => ?_)
    refine lv_iload_n hx hb dX12_lackingWith_48 rfl (lv_at hl 0 rfl) ?_
    obtain ⟨i1, i2⟩ := mt_so2 hf
    subst i1
    subst i2
    exact mt_iret hx hb hr hI hH hS hlocks dX12_lackingWith_49
  · have hf := mt_ifF c7 hf
    refine lv_iload_n hx hb dX12_lackingWith_16 rfl (lv_at hl 1 rfl) ?_
    refine lv_iload_n hx hb dX12_lackingWith_17 rfl (lv_at hl 2 rfl) ?_
    refine mt_b1I hf (fun r14 hg13 hf => ?_)
    refine mt_goi (mt_runS (As := [.int a1, .int x3]) (rest := []) ⟨hx, hb, hml, hown, hts⟩ hI hH (c_X12_has l E a1 x3 M4 u _ hg13) (va_cwS 2 hts gX12_lackingWith_X12_has rfl rfl rfl (by decide +kernel) ⟨Nat.le_of_ble_eq_true rfl, Nat.le_of_ble_eq_true rfl⟩) rfl hl.1 rfl (Nat.le_of_ble_eq_true rfl) dX12_lackingWith_18 ⟨Nat.zero_le _, Nat.zero_le _⟩) hS (fun H locs hH hS => ?_)
    refine mt_jn1 hf (fun (M15 : mt_M) => ∀ (H : Heap) (locs : List Loc) (ls : Array Slot), mt_H E M15 u H → va_S (mt_A E) s.heap H locs → lv_has ls 3 [(0, .ref (E.2.1 147)), (1, .int a1), (2, .int x3)] → W p l e (headSpec wsX12_lackingWith ({ frames := 4, cells := 0, slots := 0, locals := 91 } : Room)).room s mid (([.ref (E.2.1 147), .int a1] : List Value).toArray) below meth c0 H locs 0 0 (MQ below (mt_Qi E r M' u) (([.ref (E.2.1 147), .int a1] : List Value).toArray) s 0 0 (mt_A E)) (F0 mid 29 ls [])) ?_ ?_
    · intro M15 hf H locs ls hH hS hl
      refine mt_ltI hf (fun x18 ex18 hf => ?_)
      refine lv_iinc (v := x18) (lv' := [(2, .int x18), (0, .ref (E.2.1 147)), (1, .int a1)]) hx hb dX12_lackingWith_29 hl (k := 2) rfl (by rw [ex18]; rfl) (by decide) rfl (fun ls hl => ?_)
      refine lv_goto (tgt := 8) hx hb dX12_lackingWith_32 (by decide) ?_
      exact ih6 x18 M15 hf _ _ _ hH hS (lv_sub hl [1, 2, 0] rfl)
    · intro j16 hj17 hf
      refine lv_if_eq (tgt := 29) hx hb dX12_lackingWith_21 (by decide) (fun c19 => ?_) (fun c19 => ?_)
      · have hf := mt_ifT c19 hf
        exact hj17 M4 hf _ _ _ hH hS (lv_sub hl [0, 1, 2] rfl)
      · have hf := mt_ifF c19 hf
        refine lv_aload_n hx hb dX12_lackingWith_24 rfl (lv_at hl 0 rfl) ?_
        refine lv_iload_n hx hb dX12_lackingWith_25 rfl (lv_at hl 2 rfl) ?_
        refine mt_b1I hf (fun M21 hg20 hf => ?_)
        refine mt_gov (mt_runV (i := 147) (As := [.int x3]) (rest := []) ⟨hx, hb, hml, hown, hts⟩ hI hH (c_X12_gets l E x3 M4 u _ hg20) (cwV 1 hts gX12_lackingWith_X12_gets rfl rfl rfl (by decide +kernel) ⟨Nat.le_of_ble_eq_true rfl, Nat.le_of_ble_eq_true rfl⟩) mt_T147 rfl rfl hl.1 rfl (Nat.le_of_ble_eq_true rfl) dX12_lackingWith_26 ⟨Nat.zero_le _, Nat.zero_le _⟩) hS (fun H locs hH hS => ?_)
        exact hj17 M21 hf _ _ _ hH hS (lv_sub hl [0, 1, 2] rfl)
set_option maxHeartbeats 4000000 in
set_option maxRecDepth 100000 in
theorem c_X12_order (l : Launch) (E : mt_E) (a1 : Int32) (a2 : Int32) (M : mt_M) (u : mt_U) (r : Int32) (M' : mt_M) (hf : f_X12_order a1 a2 M = some (r, M')) : Met l yX12_order wsX12_order ({ frames := 5, cells := 0, slots := 0, locals := 113 } : Room) (mt_P E [.ref (E.2.1 147), .int a1, .int a2] M u) (mt_Qi E r M' u) 0 0 (mt_A E) := by
  refine Met.ofW (cc := cX12_order) (maxL := 8) (ret := (some .int)) (by decide) rfl ?_
  intro p e s mid args below meth c0 s₁ B hml hv
  obtain ⟨rfl, hI, hH⟩ := hv
  have hx := B.exec
  have hb := B.bytes
  have hr := B.returns
  have hts := atoms_spec (ws := wsX12_order) B.pre
  have hown : s.vm.findClass RX12 = some mid.cls := findClass_of_methodNamed B.named
  have hlocks := B.notSynchronized
  have hS : va_S (mt_A E) s.heap s.heap [] := va_S.rf
  have hl := lv_entry ([.ref (E.2.1 147), .int a1, .int a2]) (n := 8) (Nat.le_of_ble_eq_true rfl)
  rw [lg_entry_eq]
  generalize (lg_sl ([.ref (E.2.1 147), .int a1, .int a2]) ++ List.replicate (8 - (lg_sl ([.ref (E.2.1 147), .int a1, .int a2])).length) Slot.unset).toArray = ls at hl ⊢
  have hl : lv_has ls 8 [(0, .ref (E.2.1 147)), (1, .int a1), (2, .int a2)] := hl
  unfold f_X12_order at hf
  have kw0 := hts (.fieldLink RX12 59 "MilkTwiceModel" "things" "I") (List.mem_of_getElem? (i := 1) rfl)
  have hinX12 : ∀ w ∈ u_ws RX12 TX12 29, w ∈ wsX12_order := fun w h => List.mem_cons_of_mem _ (List.mem_append_right _ h)
  refine lv_iload_n hx hb dX12_order_0 rfl (lv_at hl 1 rfl) ?_
  refine lv_iconst (v := 0) hx hb dX12_order_1 (by decide) ?_
  refine lv_sipush (v := 999) hx hb dX12_order_2 (by decide) ?_
  refine mt_b1I hf (fun r2 hg1 hf => ?_)
  refine mt_goi (mt_runS (As := [.int a1, .int (0 : Int32), .int (999 : Int32)]) (rest := []) ⟨hx, hb, hml, hown, hts⟩ hI hH (c_X12_bound l E a1 (0 : Int32) (999 : Int32) M u _ hg1) (va_cwS 3 hts gX12_order_X12_bound rfl rfl rfl (by decide +kernel) ⟨Nat.le_of_ble_eq_true rfl, Nat.le_of_ble_eq_true rfl⟩) rfl hl.1 rfl (Nat.le_of_ble_eq_true rfl) dX12_order_5 ⟨Nat.zero_le _, Nat.zero_le _⟩) hS (fun H locs hH hS => ?_)
  refine lv_istore_n (lv' := [(3, .int r2), (0, .ref (E.2.1 147)), (1, .int a1), (2, .int a2)]) hx hb dX12_order_8 rfl hl (by decide) rfl (fun ls hl => ?_)
  refine lv_iload_n hx hb dX12_order_9 rfl (lv_at hl 0 rfl) ?_
  refine mt_jn1 hf (fun (x3 : Int32) => ∀ (H : Heap) (locs : List Loc) (ls : Array Slot), mt_H E M u H → va_S (mt_A E) s.heap H locs → lv_has ls 8 [(0, .ref (E.2.1 147)), (1, .int a1), (2, .int a2), (3, .int x3)] → W p l e (headSpec wsX12_order ({ frames := 5, cells := 0, slots := 0, locals := 113 } : Room)).room s mid (([.ref (E.2.1 147), .int a1, .int a2] : List Value).toArray) below meth c0 H locs 0 0 (MQ below (mt_Qi E r M' u) (([.ref (E.2.1 147), .int a1, .int a2] : List Value).toArray) s 0 0 (mt_A E)) (F0 mid 25 ls [])) ?_ ?_
  · intro x3 hf H locs ls hH hS hl
    refine lv_iload_n hx hb dX12_order_25 rfl (lv_at hl 3 rfl) ?_
    refine lv_if_eq (tgt := 35) hx hb dX12_order_26 (by decide) (fun c6 => ?_) (fun c6 => ?_)
    · have hf := mt_ifT c6 hf
      refine lv_iconst (v := 0) hx hb dX12_order_35 (by decide) ?_
      refine lv_istore (lv' := [(4, .int (0 : Int32)), (0, .ref (E.2.1 147)), (1, .int a1), (2, .int a2), (3, .int x3)]) hx hb dX12_order_36 hl (by decide) rfl (fun ls hl => ?_)
      refine lv_aload_n hx hb dX12_order_38 rfl (lv_at hl 1 rfl) ?_
      refine lv_iconst (v := 0) hx hb dX12_order_39 (by decide) ?_
      refine mt_b2I hf (fun r8 M9 hg7 hf => ?_)
      refine mt_goi (mt_runV (i := 147) (As := [.int (0 : Int32)]) (rest := []) ⟨hx, hb, hml, hown, hts⟩ hI hH (c_X12_lackingWith l E (0 : Int32) M u _ _ hg7) (cwV 1 hts gX12_order_X12_lackingWith rfl rfl rfl (by decide +kernel) ⟨Nat.le_of_ble_eq_true rfl, Nat.le_of_ble_eq_true rfl⟩) mt_T147 rfl rfl hl.1 rfl (Nat.le_of_ble_eq_true rfl) dX12_order_40 ⟨Nat.zero_le _, Nat.zero_le _⟩) hS (fun H locs hH hS => ?_)
      refine lv_istore (lv' := [(5, .int r8), (4, .int (0 : Int32)), (0, .ref (E.2.1 147)), (1, .int a1), (2, .int a2), (3, .int x3)]) hx hb dX12_order_43 hl (by decide) rfl (fun ls hl => ?_)
      refine lv_iconst (v := 1) hx hb dX12_order_45 (by decide) ?_
      refine lv_istore (lv' := [(6, .int (1 : Int32)), (5, .int r8), (4, .int (0 : Int32)), (0, .ref (E.2.1 147)), (1, .int a1), (2, .int a2), (3, .int x3)]) hx hb dX12_order_46 hl (by decide) rfl (fun ls hl => ?_)
      refine mt_lpI4 hf (fun (x10 : Int32) (x11 : Int32) (x12 : Int32) (M13 : mt_M) => ∀ (H : Heap) (locs : List Loc) (ls : Array Slot), mt_H E M13 u H → va_S (mt_A E) s.heap H locs → lv_has ls 8 [(0, .ref (E.2.1 147)), (1, .int a1), (2, .int a2), (4, .int x10), (5, .int x11), (6, .int x12)] → W p l e (headSpec wsX12_order ({ frames := 5, cells := 0, slots := 0, locals := 113 } : Room)).room s mid (([.ref (E.2.1 147), .int a1, .int a2] : List Value).toArray) below meth c0 H locs 0 0 (MQ below (mt_Qi E r M' u) (([.ref (E.2.1 147), .int a1, .int a2] : List Value).toArray) s 0 0 (mt_A E)) (F0 mid 48 ls [])) ?_ _ _ _ hH hS (lv_sub hl [3, 4, 5, 2, 1, 0] rfl)
      intro k14 ih15 x10 x11 x12 M13 hf H locs ls hH hS hl
      refine lv_iload hx hb dX12_order_48 (lv_at hl 5 rfl) ?_
      refine lv_iconst (v := 1) hx hb dX12_order_50 (by decide) ?_
      refine lv_aload_n hx hb dX12_order_51 rfl (lv_at hl 0 rfl) ?_
      refine mt_geti (C := RX12) (T := TX12) (N := 29) hx hb hts hinX12 hown hI hH mt_T147 rfl 8 (by decide) kw0 rfl rfl dX12_order_52 ?_
      refine lv_ishl hx hb dX12_order_55 ?_
      refine lv_icmp_ge (tgt := 104) hx hb dX12_order_56 (by decide) (fun c16 => ?_) (fun c16 => ?_)
      · have hf := mt_ifT c16 hf
        refine lv_iload_n hx hb dX12_order_104 rfl (lv_at hl 2 rfl) ?_
        refine lv_if_ne (tgt := 113) hx hb dX12_order_105 (by decide) (fun c17 => ?_) (fun c17 => ?_)
        · have hf := mt_ifF c17 hf
          refine lv_iload hx hb dX12_order_113 (lv_at hl 4 rfl) ?_
          obtain ⟨i1, i2⟩ := mt_so2 hf
          subst i1
          subst i2
          exact mt_iret hx hb hr hI hH hS hlocks dX12_order_115
        · have hf := mt_ifT c17 hf
          refine lv_iload hx hb dX12_order_108 (lv_at hl 3 rfl) ?_
          refine lv_goto (tgt := 115) hx hb dX12_order_110 (by decide) ?_
          obtain ⟨i1, i2⟩ := mt_so2 hf
          subst i1
          subst i2
          exact mt_iret hx hb hr hI hH hS hlocks dX12_order_115
      · have hf := mt_ifF c16 hf
        refine lv_aload_n hx hb dX12_order_59 rfl (lv_at hl 0 rfl) ?_
        refine lv_iload hx hb dX12_order_60 (lv_at hl 5 rfl) ?_
        refine mt_b1I hf (fun r19 hg18 hf => ?_)
        refine mt_goi (mt_runV (i := 147) (As := [.int x12]) (rest := []) ⟨hx, hb, hml, hown, hts⟩ hI hH (c_X12_priceOfAll l E x12 M13 u _ hg18) (cwV 1 hts gX12_order_X12_priceOfAll rfl rfl rfl (by decide +kernel) ⟨Nat.le_of_ble_eq_true rfl, Nat.le_of_ble_eq_true rfl⟩) mt_T147 rfl rfl hl.1 rfl (Nat.le_of_ble_eq_true rfl) dX12_order_62 ⟨Nat.zero_le _, Nat.zero_le _⟩) hS (fun H locs hH hS => ?_)
        refine lv_iload_n hx hb dX12_order_65 rfl (lv_at hl 1 rfl) ?_
        refine mt_jn3 hf (fun (x20 : Int32) (x21 : Int32) (M22 : mt_M) => ∀ (H : Heap) (locs : List Loc) (ls : Array Slot), mt_H E M22 u H → va_S (mt_A E) s.heap H locs → lv_has ls 8 [(0, .ref (E.2.1 147)), (1, .int a1), (2, .int a2), (4, .int x20), (5, .int x21), (6, .int x12)] → W p l e (headSpec wsX12_order ({ frames := 5, cells := 0, slots := 0, locals := 113 } : Room)).room s mid (([.ref (E.2.1 147), .int a1, .int a2] : List Value).toArray) below meth c0 H locs 0 0 (MQ below (mt_Qi E r M' u) (([.ref (E.2.1 147), .int a1, .int a2] : List Value).toArray) s 0 0 (mt_A E)) (F0 mid 98 ls [])) ?_ ?_
        · intro x20 x21 M22 hf H locs ls hH hS hl
          refine mt_ltI hf (fun x25 ex25 hf => ?_)
          refine lv_iinc (v := x25) (lv' := [(6, .int x25), (0, .ref (E.2.1 147)), (1, .int a1), (2, .int a2), (4, .int x20), (5, .int x21)]) hx hb dX12_order_98 hl (k := 5) rfl (by rw [ex25]; rfl) (by decide) rfl (fun ls hl => ?_)
          refine lv_goto (tgt := 48) hx hb dX12_order_101 (by decide) ?_
          exact ih15 x20 x21 x25 M22 hf _ _ _ hH hS (lv_sub hl [1, 2, 3, 4, 5, 0] rfl)
        · intro j23 hj24 hf
          refine lv_icmp_le (tgt := 72) hx hb dX12_order_66 (by decide) (fun c26 => ?_) (fun c26 => ?_)
          · have hf := mt_ifT c26 hf
            refine lv_aload_n hx hb dX12_order_72 rfl (lv_at hl 0 rfl) ?_
            refine lv_iload hx hb dX12_order_73 (lv_at hl 5 rfl) ?_
            refine mt_b2I hf (fun r28 M29 hg27 hf => ?_)
            refine mt_goi (mt_runV (i := 147) (As := [.int x12]) (rest := []) ⟨hx, hb, hml, hown, hts⟩ hI hH (c_X12_lackingWith l E x12 M13 u _ _ hg27) (cwV 1 hts gX12_order_X12_lackingWith rfl rfl rfl (by decide +kernel) ⟨Nat.le_of_ble_eq_true rfl, Nat.le_of_ble_eq_true rfl⟩) mt_T147 rfl rfl hl.1 rfl (Nat.le_of_ble_eq_true rfl) dX12_order_75 ⟨Nat.zero_le _, Nat.zero_le _⟩) hS (fun H locs hH hS => ?_)
            refine lv_istore (lv' := [(7, .int r28), (0, .ref (E.2.1 147)), (1, .int a1), (2, .int a2), (4, .int x10), (5, .int x11), (6, .int x12)]) hx hb dX12_order_78 hl (by decide) rfl (fun ls hl => ?_)
            refine lv_iload hx hb dX12_order_80 (lv_at hl 0 rfl) ?_
            refine lv_iload hx hb dX12_order_82 (lv_at hl 5 rfl) ?_
            refine lv_icmp_lt (tgt := 90) hx hb dX12_order_84 (by decide) (fun c30 => ?_) (fun c30 => ?_)
            · have hf := mt_ifT c30 hf
              refine lv_iload hx hb dX12_order_90 (lv_at hl 6 rfl) ?_
              refine lv_istore (lv' := [(4, .int x12), (7, .int r28), (0, .ref (E.2.1 147)), (1, .int a1), (2, .int a2), (5, .int x11), (6, .int x12)]) hx hb dX12_order_92 hl (by decide) rfl (fun ls hl => ?_)
              refine lv_iload hx hb dX12_order_94 (lv_at hl 1 rfl) ?_
              refine lv_istore (lv' := [(5, .int r28), (4, .int x12), (7, .int r28), (0, .ref (E.2.1 147)), (1, .int a1), (2, .int a2), (6, .int x12)]) hx hb dX12_order_96 hl (by decide) rfl (fun ls hl => ?_)
              exact hj24 x12 r28 M29 hf _ _ _ hH hS (lv_sub hl [3, 4, 5, 1, 0, 6] rfl)
            · have hf := mt_ifF c30 hf
              refine lv_goto (tgt := 98) hx hb dX12_order_87 (by decide) ?_
              exact hj24 x10 x11 M29 hf _ _ _ hH hS (lv_sub hl [1, 2, 3, 4, 5, 6] rfl)
          · have hf := mt_ifF c26 hf
            refine lv_goto (tgt := 98) hx hb dX12_order_69 (by decide) ?_
            exact hj24 x10 x11 M13 hf _ _ _ hH hS (lv_sub hl [0, 1, 2, 3, 4, 5] rfl)
    · have hf := mt_ifF c6 hf
      refine lv_aload_n hx hb dX12_order_29 rfl (lv_at hl 0 rfl) ?_
      refine lv_iload_n hx hb dX12_order_30 rfl (lv_at hl 3 rfl) ?_
      refine mt_b2I hf (fun r32 M33 hg31 hf => ?_)
      refine mt_goi (mt_runV (i := 147) (As := [.int x3]) (rest := []) ⟨hx, hb, hml, hown, hts⟩ hI hH (c_X12_no l E x3 M u _ _ hg31) (cwV 1 hts gX12_order_X12_no rfl rfl rfl (by decide +kernel) ⟨Nat.le_of_ble_eq_true rfl, Nat.le_of_ble_eq_true rfl⟩) mt_T147 rfl rfl hl.1 rfl (Nat.le_of_ble_eq_true rfl) dX12_order_31 ⟨Nat.zero_le _, Nat.zero_le _⟩) hS (fun H locs hH hS => ?_)
      obtain ⟨i1, i2⟩ := mt_so2 hf
      subst i1
      subst i2
      exact mt_iret hx hb hr hI hH hS hlocks dX12_order_34
  · intro j4 hj5 hf
    refine lv_if_ne (tgt := 25) hx hb dX12_order_10 (by decide) (fun c34 => ?_) (fun c34 => ?_)
    · have hf := mt_ifF c34 hf
      exact hj5 r2 hf _ _ _ hH hS (lv_sub hl [1, 2, 3, 0] rfl)
    · have hf := mt_ifT c34 hf
      refine lv_iload_n hx hb dX12_order_13 rfl (lv_at hl 3 rfl) ?_
      refine lv_iconst (v := 0) hx hb dX12_order_14 (by decide) ?_
      refine lv_iconst (v := 1) hx hb dX12_order_15 (by decide) ?_
      refine mt_b1I hf (fun r36 hg35 hf => ?_)
      refine mt_goi (mt_runS (As := [.int a2, .int (0 : Int32), .int (1 : Int32)]) (rest := []) ⟨hx, hb, hml, hown, hts⟩ hI hH (c_X12_isIn l E a2 (0 : Int32) (1 : Int32) M u _ hg35) (va_cwS 3 hts gX12_order_X12_isIn rfl rfl rfl (by decide +kernel) ⟨Nat.le_of_ble_eq_true rfl, Nat.le_of_ble_eq_true rfl⟩) rfl hl.1 rfl (Nat.le_of_ble_eq_true rfl) dX12_order_16 ⟨Nat.zero_le _, Nat.zero_le _⟩) hS (fun H locs hH hS => ?_)
      refine lv_if_ne (tgt := 25) hx hb dX12_order_19 (by decide) (fun c37 => ?_) (fun c37 => ?_)
      · have hf := mt_ifF c37 hf
        exact hj5 r2 hf _ _ _ hH hS (lv_sub hl [1, 2, 3, 0] rfl)
      · have hf := mt_ifT c37 hf
        refine lv_bipush (v := (-2)) hx hb dX12_order_22 (by decide) ?_
        refine lv_istore_n (lv' := [(3, .int (-2 : Int32)), (0, .ref (E.2.1 147)), (1, .int a1), (2, .int a2)]) hx hb dX12_order_24 rfl hl (by decide) rfl (fun ls hl => ?_)
        exact hj5 (-2 : Int32) hf _ _ _ hH hS (lv_sub hl [1, 2, 3, 0] rfl)
set_option maxHeartbeats 4000000 in
set_option maxRecDepth 100000 in
theorem c_X12_notTenths (l : Launch) (E : mt_E) (a0 : Int32) (a1 : Int32) (M : mt_M) (u : mt_U) (r : Int32) (hf : f_X12_notTenths a0 a1 = some (r)) : Met l yX12_notTenths wsX12_notTenths ({ frames := 0, cells := 0, slots := 0, locals := 0 } : Room) (mt_P E [.int a0, .int a1] M u) (mt_Qi E r M u) 0 0 (mt_A E) := by
  refine Met.ofW (cc := cX12_notTenths) (maxL := 2) (ret := (some .int)) (by decide) rfl ?_
  intro p e s mid args below meth c0 s₁ B hml hv
  obtain ⟨rfl, hI, hH⟩ := hv
  have hx := B.exec
  have hb := B.bytes
  have hr := B.returns
  have hts := atoms_spec (ws := wsX12_notTenths) B.pre
  have hown : s.vm.findClass RX12 = some mid.cls := findClass_of_methodNamed B.named
  have hlocks := B.notSynchronized
  have hS : va_S (mt_A E) s.heap s.heap [] := va_S.rf
  have hl := lv_entry ([.int a0, .int a1]) (n := 2) (Nat.le_of_ble_eq_true rfl)
  rw [lg_entry_eq]
  generalize (lg_sl ([.int a0, .int a1]) ++ List.replicate (2 - (lg_sl ([.int a0, .int a1])).length) Slot.unset).toArray = ls at hl ⊢
  have hl : lv_has ls 2 [(0, .int a0), (1, .int a1)] := hl
  unfold f_X12_notTenths at hf
  refine lv_iload_n hx hb dX12_notTenths_0 rfl (lv_at hl 0 rfl) ?_
  refine lv_if_lt (tgt := 8) hx hb dX12_notTenths_1 (by decide) (fun c1 => ?_) (fun c1 => ?_)
  · have hf := mt_ifT c1 hf
    refine lv_bipush (v := (-4)) hx hb dX12_notTenths_8 (by decide) ?_
    refine lv_goto (tgt := 31) hx hb dX12_notTenths_10 (by decide) ?_
    have i1 := mt_so1 hf
    subst i1
    exact mt_iret hx hb hr hI hH hS hlocks dX12_notTenths_31
  · have hf := mt_ifF c1 hf
    refine lv_iload_n hx hb dX12_notTenths_4 rfl (lv_at hl 1 rfl) ?_
    refine lv_if_ge (tgt := 13) hx hb dX12_notTenths_5 (by decide) (fun c2 => ?_) (fun c2 => ?_)
    · have hf := mt_ifT c2 hf
      refine lv_iload_n hx hb dX12_notTenths_13 rfl (lv_at hl 0 rfl) ?_
      refine lv_bipush (v := 10) hx hb dX12_notTenths_14 (by decide) ?_
      refine lv_icmp_gt (tgt := 25) hx hb dX12_notTenths_16 (by decide) (fun c3 => ?_) (fun c3 => ?_)
      · have hf := mt_ifT c3 hf
        refine lv_bipush (v := (-6)) hx hb dX12_notTenths_25 (by decide) ?_
        refine lv_goto (tgt := 31) hx hb dX12_notTenths_27 (by decide) ?_
        have i1 := mt_so1 hf
        subst i1
        exact mt_iret hx hb hr hI hH hS hlocks dX12_notTenths_31
      · have hf := mt_ifF c3 hf
        refine lv_iload_n hx hb dX12_notTenths_19 rfl (lv_at hl 1 rfl) ?_
        refine lv_bipush (v := 10) hx hb dX12_notTenths_20 (by decide) ?_
        refine lv_icmp_le (tgt := 30) hx hb dX12_notTenths_22 (by decide) (fun c4 => ?_) (fun c4 => ?_)
        · have hf := mt_ifT c4 hf
          refine lv_iconst (v := 0) hx hb dX12_notTenths_30 (by decide) ?_
          have i1 := mt_so1 hf
          subst i1
          exact mt_iret hx hb hr hI hH hS hlocks dX12_notTenths_31
        · have hf := mt_ifF c4 hf
          refine lv_bipush (v := (-6)) hx hb dX12_notTenths_25 (by decide) ?_
          refine lv_goto (tgt := 31) hx hb dX12_notTenths_27 (by decide) ?_
          have i1 := mt_so1 hf
          subst i1
          exact mt_iret hx hb hr hI hH hS hlocks dX12_notTenths_31
    · have hf := mt_ifF c2 hf
      refine lv_bipush (v := (-4)) hx hb dX12_notTenths_8 (by decide) ?_
      refine lv_goto (tgt := 31) hx hb dX12_notTenths_10 (by decide) ?_
      have i1 := mt_so1 hf
      subst i1
      exact mt_iret hx hb hr hI hH hS hlocks dX12_notTenths_31
set_option maxHeartbeats 4000000 in
set_option maxRecDepth 100000 in
theorem c_X12_meanBy (l : Launch) (E : mt_E) (a1 : Int32) (a2 : Int32) (a3 : Int32) (a4 : Int32) (M : mt_M) (u : mt_U) (r : Int32) (hf : f_X12_meanBy a1 a2 a3 a4 M = some (r)) : Met l yX12_meanBy wsX12_meanBy ({ frames := 2, cells := 0, slots := 0, locals := 44 } : Room) (mt_P E [.ref (E.2.1 147), .int a1, .int a2, .int a3, .int a4] M u) (mt_Qi E r M u) 0 0 (mt_A E) := by
  refine Met.ofW (cc := cX12_meanBy) (maxL := 10) (ret := (some .int)) (by decide) rfl ?_
  intro p e s mid args below meth c0 s₁ B hml hv
  obtain ⟨rfl, hI, hH⟩ := hv
  have hx := B.exec
  have hb := B.bytes
  have hr := B.returns
  have hts := atoms_spec (ws := wsX12_meanBy) B.pre
  have hown : s.vm.findClass RX12 = some mid.cls := findClass_of_methodNamed B.named
  have hlocks := B.notSynchronized
  have hS : va_S (mt_A E) s.heap s.heap [] := va_S.rf
  have hl := lv_entry ([.ref (E.2.1 147), .int a1, .int a2, .int a3, .int a4]) (n := 10) (Nat.le_of_ble_eq_true rfl)
  rw [lg_entry_eq]
  generalize (lg_sl ([.ref (E.2.1 147), .int a1, .int a2, .int a3, .int a4]) ++ List.replicate (10 - (lg_sl ([.ref (E.2.1 147), .int a1, .int a2, .int a3, .int a4])).length) Slot.unset).toArray = ls at hl ⊢
  have hl : lv_has ls 10 [(0, .ref (E.2.1 147)), (1, .int a1), (2, .int a2), (3, .int a3), (4, .int a4)] := hl
  unfold f_X12_meanBy at hf
  refine lv_iconst (v := 0) hx hb dX12_meanBy_0 (by decide) ?_
  refine lv_istore (lv' := [(5, .int (0 : Int32)), (0, .ref (E.2.1 147)), (1, .int a1), (2, .int a2), (3, .int a3), (4, .int a4)]) hx hb dX12_meanBy_1 hl (by decide) rfl (fun ls hl => ?_)
  refine lv_iconst (v := 0) hx hb dX12_meanBy_3 (by decide) ?_
  refine lv_istore (lv' := [(6, .int (0 : Int32)), (5, .int (0 : Int32)), (0, .ref (E.2.1 147)), (1, .int a1), (2, .int a2), (3, .int a3), (4, .int a4)]) hx hb dX12_meanBy_4 hl (by decide) rfl (fun ls hl => ?_)
  refine mt_lpI2 hf (fun (x1 : Int32) (x2 : Int32) => ∀ (H : Heap) (locs : List Loc) (ls : Array Slot), mt_H E M u H → va_S (mt_A E) s.heap H locs → lv_has ls 10 [(0, .ref (E.2.1 147)), (1, .int a1), (2, .int a2), (3, .int a3), (4, .int a4), (5, .int x1), (6, .int x2)] → W p l e (headSpec wsX12_meanBy ({ frames := 2, cells := 0, slots := 0, locals := 44 } : Room)).room s mid (([.ref (E.2.1 147), .int a1, .int a2, .int a3, .int a4] : List Value).toArray) below meth c0 H locs 0 0 (MQ below (mt_Qi E r M u) (([.ref (E.2.1 147), .int a1, .int a2, .int a3, .int a4] : List Value).toArray) s 0 0 (mt_A E)) (F0 mid 6 ls [])) ?_ _ _ _ hH hS (lv_sub hl [2, 3, 4, 5, 6, 1, 0] rfl)
  intro k3 ih4 x1 x2 hf H locs ls hH hS hl
  refine lv_iload hx hb dX12_meanBy_6 (lv_at hl 6 rfl) ?_
  refine lv_iconst (v := 4) hx hb dX12_meanBy_8 (by decide) ?_
  refine lv_icmp_ge (tgt := 111) hx hb dX12_meanBy_9 (by decide) (fun c5 => ?_) (fun c5 => ?_)
  · have hf := mt_ifT c5 hf
    refine lv_iload hx hb dX12_meanBy_111 (lv_at hl 5 rfl) ?_
    have i1 := mt_so1 hf
    subst i1
    exact mt_iret hx hb hr hI hH hS hlocks dX12_meanBy_113
  · have hf := mt_ifF c5 hf
    refine lv_iload hx hb dX12_meanBy_12 (lv_at hl 6 rfl) ?_
    refine lv_iconst (v := 2) hx hb dX12_meanBy_14 (by decide) ?_
    refine lv_idiv hx hb dX12_meanBy_15 (by decide) ?_
    refine mt_lti hf (fun x6 ex6 hf => ?_)
    refine lv_istore (lv' := [(7, .int x6), (0, .ref (E.2.1 147)), (1, .int a1), (2, .int a2), (3, .int a3), (4, .int a4), (5, .int x1), (6, .int x2)]) hx hb dX12_meanBy_16 hl (by decide) rfl (fun ls hl => ?_)
    refine lv_iload hx hb dX12_meanBy_18 (lv_at hl 7 rfl) ?_
    refine lv_iconst (v := 2) hx hb dX12_meanBy_20 (by decide) ?_
    refine lv_irem hx hb dX12_meanBy_21 (by decide) ?_
    refine mt_lti hf (fun x7 ex7 hf => ?_)
    refine lv_istore (lv' := [(8, .int x7), (7, .int x6), (0, .ref (E.2.1 147)), (1, .int a1), (2, .int a2), (3, .int a3), (4, .int a4), (5, .int x1), (6, .int x2)]) hx hb dX12_meanBy_22 hl (by decide) rfl (fun ls hl => ?_)
    refine lv_iload hx hb dX12_meanBy_24 (lv_at hl 6 rfl) ?_
    refine lv_iconst (v := 1) hx hb dX12_meanBy_26 (by decide) ?_
    refine mt_jn1 hf (fun (v8 : Int32) => ∀ (H : Heap) (locs : List Loc) (ls : Array Slot), mt_H E M u H → va_S (mt_A E) s.heap H locs → lv_has ls 10 [(0, .ref (E.2.1 147)), (1, .int a1), (2, .int a2), (3, .int a3), (4, .int a4), (5, .int x1), (6, .int x2), (7, .int x6), (8, .int x7)] → W p l e (headSpec wsX12_meanBy ({ frames := 2, cells := 0, slots := 0, locals := 44 } : Room)).room s mid (([.ref (E.2.1 147), .int a1, .int a2, .int a3, .int a4] : List Value).toArray) below meth c0 H locs 0 0 (MQ below (mt_Qi E r M u) (([.ref (E.2.1 147), .int a1, .int a2, .int a3, .int a4] : List Value).toArray) s 0 0 (mt_A E)) (F0 mid 42 ls [.int v8])) ?_ ?_
    · intro v8 hf H locs ls hH hS hl
      refine lv_iload hx hb dX12_meanBy_42 (lv_at hl 4 rfl) ?_
      refine lv_iconst (v := 2) hx hb dX12_meanBy_44 (by decide) ?_
      refine mt_jn1 hf (fun (v11 : Int32) => ∀ (H : Heap) (locs : List Loc) (ls : Array Slot), mt_H E M u H → va_S (mt_A E) s.heap H locs → lv_has ls 10 [(0, .ref (E.2.1 147)), (1, .int a1), (2, .int a2), (3, .int a3), (4, .int a4), (5, .int x1), (6, .int x2), (7, .int x6), (8, .int x7)] → W p l e (headSpec wsX12_meanBy ({ frames := 2, cells := 0, slots := 0, locals := 44 } : Room)).room s mid (([.ref (E.2.1 147), .int a1, .int a2, .int a3, .int a4] : List Value).toArray) below meth c0 H locs 0 0 (MQ below (mt_Qi E r M u) (([.ref (E.2.1 147), .int a1, .int a2, .int a3, .int a4] : List Value).toArray) s 0 0 (mt_A E)) (F0 mid 60 ls [.int v11, .int v8])) ?_ ?_
      · intro v11 hf H locs ls hH hS hl
        refine lv_iadd hx hb dX12_meanBy_60 ?_
        refine mt_lti hf (fun x14 ex14 hf => ?_)
        refine lv_istore (lv' := [(9, .int x14), (0, .ref (E.2.1 147)), (1, .int a1), (2, .int a2), (3, .int a3), (4, .int a4), (5, .int x1), (6, .int x2), (7, .int x6), (8, .int x7)]) hx hb dX12_meanBy_61 hl (by decide) rfl (fun ls hl => ?_)
        refine lv_iload hx hb dX12_meanBy_63 (lv_at hl 6 rfl) ?_
        refine lv_iload hx hb dX12_meanBy_65 (lv_at hl 8 rfl) ?_
        refine lv_iconst (v := 1) hx hb dX12_meanBy_67 (by decide) ?_
        refine mt_jn1 hf (fun (v15 : Int32) => ∀ (H : Heap) (locs : List Loc) (ls : Array Slot), mt_H E M u H → va_S (mt_A E) s.heap H locs → lv_has ls 10 [(0, .ref (E.2.1 147)), (1, .int a1), (2, .int a2), (3, .int a3), (4, .int a4), (6, .int x2), (8, .int x7), (9, .int x14)] → W p l e (headSpec wsX12_meanBy ({ frames := 2, cells := 0, slots := 0, locals := 44 } : Room)).room s mid (([.ref (E.2.1 147), .int a1, .int a2, .int a3, .int a4] : List Value).toArray) below meth c0 H locs 0 0 (MQ below (mt_Qi E r M u) (([.ref (E.2.1 147), .int a1, .int a2, .int a3, .int a4] : List Value).toArray) s 0 0 (mt_A E)) (F0 mid 79 ls [.int v15, .int x1])) ?_ ?_
        · intro v15 hf H locs ls hH hS hl
          refine lv_iload hx hb dX12_meanBy_79 (lv_at hl 6 rfl) ?_
          refine lv_iconst (v := 1) hx hb dX12_meanBy_81 (by decide) ?_
          refine mt_jn1 hf (fun (v18 : Int32) => ∀ (H : Heap) (locs : List Loc) (ls : Array Slot), mt_H E M u H → va_S (mt_A E) s.heap H locs → lv_has ls 10 [(0, .ref (E.2.1 147)), (1, .int a1), (2, .int a2), (3, .int a3), (4, .int a4), (6, .int x2), (9, .int x14)] → W p l e (headSpec wsX12_meanBy ({ frames := 2, cells := 0, slots := 0, locals := 44 } : Room)).room s mid (([.ref (E.2.1 147), .int a1, .int a2, .int a3, .int a4] : List Value).toArray) below meth c0 H locs 0 0 (MQ below (mt_Qi E r M u) (([.ref (E.2.1 147), .int a1, .int a2, .int a3, .int a4] : List Value).toArray) s 0 0 (mt_A E)) (F0 mid 93 ls [.int v18, .int v15, .int x1])) ?_ ?_
          · intro v18 hf H locs ls hH hS hl
            refine lv_imul hx hb dX12_meanBy_93 ?_
            refine lv_aload_n hx hb dX12_meanBy_94 rfl (lv_at hl 0 rfl) ?_
            refine lv_iload_n hx hb dX12_meanBy_95 rfl (lv_at hl 1 rfl) ?_
            refine lv_iload hx hb dX12_meanBy_96 (lv_at hl 6 rfl) ?_
            refine mt_b1I hf (fun r22 hg21 hf => ?_)
            refine mt_goi (mt_runV (i := 147) (As := [.int a1, .int x14]) (rest := [.int (v15 * v18), .int x1]) ⟨hx, hb, hml, hown, hts⟩ hI hH (c_X12_harmOf l E a1 x14 M u _ hg21) (cwV 2 hts gX12_meanBy_X12_harmOf rfl rfl rfl (by decide +kernel) ⟨Nat.le_of_ble_eq_true rfl, Nat.le_of_ble_eq_true rfl⟩) mt_T147 rfl rfl hl.1 rfl (Nat.le_of_ble_eq_true rfl) dX12_meanBy_98 ⟨Nat.zero_le _, Nat.zero_le _⟩) hS (fun H locs hH hS => ?_)
            refine lv_imul hx hb dX12_meanBy_101 ?_
            refine lv_iadd hx hb dX12_meanBy_102 ?_
            refine mt_lti hf (fun x23 ex23 hf => ?_)
            refine lv_istore (lv' := [(5, .int x23), (0, .ref (E.2.1 147)), (1, .int a1), (2, .int a2), (3, .int a3), (4, .int a4), (6, .int x2), (9, .int x14)]) hx hb dX12_meanBy_103 hl (by decide) rfl (fun ls hl => ?_)
            refine mt_ltI hf (fun x24 ex24 hf => ?_)
            refine lv_iinc (v := x24) (lv' := [(6, .int x24), (5, .int x23), (0, .ref (E.2.1 147)), (1, .int a1), (2, .int a2), (3, .int a3), (4, .int a4), (9, .int x14)]) hx hb dX12_meanBy_105 hl (k := 6) rfl (by rw [ex24]; rfl) (by decide) rfl (fun ls hl => ?_)
            refine lv_goto (tgt := 6) hx hb dX12_meanBy_108 (by decide) ?_
            exact ih4 x23 x24 hf _ _ _ hH hS (lv_sub hl [2, 3, 4, 5, 6, 1, 0] rfl)
          · intro j19 hj20 hf
            refine lv_icmp_ne (tgt := 89) hx hb dX12_meanBy_82 (by decide) (fun c25 => ?_) (fun c25 => ?_)
            · have hf := mt_ifF c25 hf
              refine lv_bipush (v := 10) hx hb dX12_meanBy_89 (by decide) ?_
              refine lv_iload_n hx hb dX12_meanBy_91 rfl (lv_at hl 3 rfl) ?_
              refine lv_isub hx hb dX12_meanBy_92 ?_
              exact hj20 ((10 : Int32) - a3) hf _ _ _ hH hS (lv_sub hl [0, 1, 2, 3, 4, 5, 7] rfl)
            · have hf := mt_ifT c25 hf
              refine lv_iload_n hx hb dX12_meanBy_85 rfl (lv_at hl 3 rfl) ?_
              refine lv_goto (tgt := 93) hx hb dX12_meanBy_86 (by decide) ?_
              exact hj20 a3 hf _ _ _ hH hS (lv_sub hl [0, 1, 2, 3, 4, 5, 7] rfl)
        · intro j16 hj17 hf
          refine lv_icmp_ne (tgt := 75) hx hb dX12_meanBy_68 (by decide) (fun c26 => ?_) (fun c26 => ?_)
          · have hf := mt_ifF c26 hf
            refine lv_bipush (v := 10) hx hb dX12_meanBy_75 (by decide) ?_
            refine lv_iload_n hx hb dX12_meanBy_77 rfl (lv_at hl 3 rfl) ?_
            refine lv_isub hx hb dX12_meanBy_78 ?_
            exact hj17 ((10 : Int32) - a2) hf _ _ _ hH hS (lv_sub hl [1, 2, 3, 4, 5, 7, 9, 0] rfl)
          · have hf := mt_ifT c26 hf
            refine lv_iload_n hx hb dX12_meanBy_71 rfl (lv_at hl 3 rfl) ?_
            refine lv_goto (tgt := 79) hx hb dX12_meanBy_72 (by decide) ?_
            exact hj17 a2 hf _ _ _ hH hS (lv_sub hl [1, 2, 3, 4, 5, 7, 9, 0] rfl)
      · intro j12 hj13 hf
        refine mt_jn0 hf (∀ (H : Heap) (locs : List Loc) (ls : Array Slot), mt_H E M u H → va_S (mt_A E) s.heap H locs → lv_has ls 10 [(0, .ref (E.2.1 147)), (1, .int a1), (2, .int a2), (3, .int a3), (4, .int a4), (5, .int x1), (6, .int x2), (7, .int x6), (8, .int x7)] → W p l e (headSpec wsX12_meanBy ({ frames := 2, cells := 0, slots := 0, locals := 44 } : Room)).room s mid (([.ref (E.2.1 147), .int a1, .int a2, .int a3, .int a4] : List Value).toArray) below meth c0 H locs 0 0 (MQ below (mt_Qi E r M u) (([.ref (E.2.1 147), .int a1, .int a2, .int a3, .int a4] : List Value).toArray) s 0 0 (mt_A E)) (F0 mid 54 ls [.int v8])) ?_ ?_
        · intro hf H locs ls hH hS hl
          refine lv_iload hx hb dX12_meanBy_54 (lv_at hl 8 rfl) ?_
          refine lv_goto (tgt := 60) hx hb dX12_meanBy_56 (by decide) ?_
          exact hj13 x7 hf _ _ _ hH hS (lv_sub hl [0, 1, 2, 3, 4, 5, 6, 7, 8] rfl)
        · intro j27 hj28 hf
          refine lv_icmp_eq (tgt := 54) hx hb dX12_meanBy_45 (by decide) (fun c29 => ?_) (fun c29 => ?_)
          · have hf := mt_ifT c29 hf
            exact hj28 hf _ _ _ hH hS (lv_sub hl [0, 1, 2, 3, 4, 5, 6, 7, 8] rfl)
          · have hf := mt_ifF c29 hf
            refine lv_iload hx hb dX12_meanBy_48 (lv_at hl 4 rfl) ?_
            refine lv_iconst (v := 3) hx hb dX12_meanBy_50 (by decide) ?_
            refine lv_icmp_ne (tgt := 59) hx hb dX12_meanBy_51 (by decide) (fun c30 => ?_) (fun c30 => ?_)
            · have hf := mt_ifF c30 hf
              refine lv_iconst (v := 0) hx hb dX12_meanBy_59 (by decide) ?_
              exact hj13 (0 : Int32) hf _ _ _ hH hS (lv_sub hl [0, 1, 2, 3, 4, 5, 6, 7, 8] rfl)
            · have hf := mt_ifT c30 hf
              exact hj28 hf _ _ _ hH hS (lv_sub hl [0, 1, 2, 3, 4, 5, 6, 7, 8] rfl)
    · intro j9 hj10 hf
      refine mt_jn0 hf (∀ (H : Heap) (locs : List Loc) (ls : Array Slot), mt_H E M u H → va_S (mt_A E) s.heap H locs → lv_has ls 10 [(0, .ref (E.2.1 147)), (1, .int a1), (2, .int a2), (3, .int a3), (4, .int a4), (5, .int x1), (6, .int x2), (7, .int x6), (8, .int x7)] → W p l e (headSpec wsX12_meanBy ({ frames := 2, cells := 0, slots := 0, locals := 44 } : Room)).room s mid (([.ref (E.2.1 147), .int a1, .int a2, .int a3, .int a4] : List Value).toArray) below meth c0 H locs 0 0 (MQ below (mt_Qi E r M u) (([.ref (E.2.1 147), .int a1, .int a2, .int a3, .int a4] : List Value).toArray) s 0 0 (mt_A E)) (F0 mid 36 ls [])) ?_ ?_
      · intro hf H locs ls hH hS hl
        refine lv_iload hx hb dX12_meanBy_36 (lv_at hl 7 rfl) ?_
        refine lv_goto (tgt := 42) hx hb dX12_meanBy_38 (by decide) ?_
        exact hj10 x6 hf _ _ _ hH hS (lv_sub hl [0, 1, 2, 3, 4, 5, 6, 7, 8] rfl)
      · intro j31 hj32 hf
        refine lv_icmp_eq (tgt := 36) hx hb dX12_meanBy_27 (by decide) (fun c33 => ?_) (fun c33 => ?_)
        · have hf := mt_ifT c33 hf
          exact hj32 hf _ _ _ hH hS (lv_sub hl [2, 3, 4, 5, 6, 7, 8, 1, 0] rfl)
        · have hf := mt_ifF c33 hf
          refine lv_iload hx hb dX12_meanBy_30 (lv_at hl 6 rfl) ?_
          refine lv_iconst (v := 3) hx hb dX12_meanBy_32 (by decide) ?_
          refine lv_icmp_ne (tgt := 41) hx hb dX12_meanBy_33 (by decide) (fun c34 => ?_) (fun c34 => ?_)
          · have hf := mt_ifF c34 hf
            refine lv_iconst (v := 0) hx hb dX12_meanBy_41 (by decide) ?_
            exact hj10 (0 : Int32) hf _ _ _ hH hS (lv_sub hl [2, 3, 4, 5, 6, 7, 8, 1, 0] rfl)
          · have hf := mt_ifT c34 hf
            exact hj32 hf _ _ _ hH hS (lv_sub hl [2, 3, 4, 5, 6, 7, 8, 1, 0] rfl)
set_option maxHeartbeats 4000000 in
set_option maxRecDepth 100000 in
theorem c_X12_unheard (l : Launch) (E : mt_E) (a1 : Int32) (a2 : Int32) (a3 : Int32) (a4 : Int32) (M : mt_M) (u : mt_U) (r : Int32) (M' : mt_M) (hf : f_X12_unheard a1 a2 a3 a4 M = some (r, M')) : Met l yX12_unheard wsX12_unheard ({ frames := 3, cells := 0, slots := 0, locals := 73 } : Room) (mt_P E [.ref (E.2.1 147), .int a1, .int a2, .int a3, .int a4] M u) (mt_Qi E r M' u) 0 0 (mt_A E) := by
  refine Met.ofW (cc := cX12_unheard) (maxL := 8) (ret := (some .int)) (by decide) rfl ?_
  intro p e s mid args below meth c0 s₁ B hml hv
  obtain ⟨rfl, hI, hH⟩ := hv
  have hx := B.exec
  have hb := B.bytes
  have hr := B.returns
  have hts := atoms_spec (ws := wsX12_unheard) B.pre
  have hown : s.vm.findClass RX12 = some mid.cls := findClass_of_methodNamed B.named
  have hlocks := B.notSynchronized
  have hS : va_S (mt_A E) s.heap s.heap [] := va_S.rf
  have hl := lv_entry ([.ref (E.2.1 147), .int a1, .int a2, .int a3, .int a4]) (n := 8) (Nat.le_of_ble_eq_true rfl)
  rw [lg_entry_eq]
  generalize (lg_sl ([.ref (E.2.1 147), .int a1, .int a2, .int a3, .int a4]) ++ List.replicate (8 - (lg_sl ([.ref (E.2.1 147), .int a1, .int a2, .int a3, .int a4])).length) Slot.unset).toArray = ls at hl ⊢
  have hl : lv_has ls 8 [(0, .ref (E.2.1 147)), (1, .int a1), (2, .int a2), (3, .int a3), (4, .int a4)] := hl
  unfold f_X12_unheard at hf
  refine lv_aload_n hx hb dX12_unheard_0 rfl (lv_at hl 0 rfl) ?_
  refine lv_iload_n hx hb dX12_unheard_1 rfl (lv_at hl 1 rfl) ?_
  refine mt_b1I hf (fun r2 hg1 hf => ?_)
  refine mt_goi (mt_runV (i := 147) (As := [.int a1]) (rest := []) ⟨hx, hb, hml, hown, hts⟩ hI hH (c_X12_isThing l E a1 M u _ hg1) (cwV 1 hts gX12_unheard_X12_isThing rfl rfl rfl (by decide +kernel) ⟨Nat.le_of_ble_eq_true rfl, Nat.le_of_ble_eq_true rfl⟩) mt_T147 rfl rfl hl.1 rfl (Nat.le_of_ble_eq_true rfl) dX12_unheard_2 ⟨Nat.zero_le _, Nat.zero_le _⟩) hS (fun H locs hH hS => ?_)
  refine mt_jn1 hf (fun (v3 : Int32) => ∀ (H : Heap) (locs : List Loc) (ls : Array Slot), mt_H E M u H → va_S (mt_A E) s.heap H locs → lv_has ls 8 [(0, .ref (E.2.1 147)), (1, .int a1), (2, .int a2), (3, .int a3), (4, .int a4)] → W p l e (headSpec wsX12_unheard ({ frames := 3, cells := 0, slots := 0, locals := 73 } : Room)).room s mid (([.ref (E.2.1 147), .int a1, .int a2, .int a3, .int a4] : List Value).toArray) below meth c0 H locs 0 0 (MQ below (mt_Qi E r M' u) (([.ref (E.2.1 147), .int a1, .int a2, .int a3, .int a4] : List Value).toArray) s 0 0 (mt_A E)) (F0 mid 17 ls [.int v3])) ?_ ?_
  · intro v3 hf H locs ls hH hS hl
    refine lv_istore (lv' := [(5, .int v3), (0, .ref (E.2.1 147)), (1, .int a1), (2, .int a2), (3, .int a3), (4, .int a4)]) hx hb dX12_unheard_17 hl (by decide) rfl (fun ls hl => ?_)
    refine lv_iload hx hb dX12_unheard_19 (lv_at hl 0 rfl) ?_
    refine mt_jn1 hf (fun (x6 : Int32) => ∀ (H : Heap) (locs : List Loc) (ls : Array Slot), mt_H E M u H → va_S (mt_A E) s.heap H locs → lv_has ls 8 [(0, .ref (E.2.1 147)), (1, .int a1), (2, .int a2), (3, .int a3), (4, .int a4), (5, .int x6)] → W p l e (headSpec wsX12_unheard ({ frames := 3, cells := 0, slots := 0, locals := 73 } : Room)).room s mid (([.ref (E.2.1 147), .int a1, .int a2, .int a3, .int a4] : List Value).toArray) below meth c0 H locs 0 0 (MQ below (mt_Qi E r M' u) (([.ref (E.2.1 147), .int a1, .int a2, .int a3, .int a4] : List Value).toArray) s 0 0 (mt_A E)) (F0 mid 38 ls [])) ?_ ?_
    · intro x6 hf H locs ls hH hS hl
      refine lv_iload hx hb dX12_unheard_38 (lv_at hl 5 rfl) ?_
      refine lv_if_eq (tgt := 50) hx hb dX12_unheard_40 (by decide) (fun c9 => ?_) (fun c9 => ?_)
      · have hf := mt_ifT c9 hf
        refine lv_iload hx hb dX12_unheard_50 (lv_at hl 4 rfl) ?_
        refine lv_iconst (v := 4) hx hb dX12_unheard_52 (by decide) ?_
        refine lv_icmp_ge (tgt := 66) hx hb dX12_unheard_53 (by decide) (fun c10 => ?_) (fun c10 => ?_)
        · have hf := mt_ifT c10 hf
          refine lv_iconst (v := 0) hx hb dX12_unheard_66 (by decide) ?_
          refine lv_istore (lv' := [(6, .int (0 : Int32)), (0, .ref (E.2.1 147)), (1, .int a1), (2, .int a2), (3, .int a3), (4, .int a4), (5, .int x6)]) hx hb dX12_unheard_67 hl (by decide) rfl (fun ls hl => ?_)
          refine lv_iconst (v := 1) hx hb dX12_unheard_69 (by decide) ?_
          refine lv_istore (lv' := [(7, .int (1 : Int32)), (6, .int (0 : Int32)), (0, .ref (E.2.1 147)), (1, .int a1), (2, .int a2), (3, .int a3), (4, .int a4), (5, .int x6)]) hx hb dX12_unheard_70 hl (by decide) rfl (fun ls hl => ?_)
          refine mt_lpI2 hf (fun (x11 : Int32) (x12 : Int32) => ∀ (H : Heap) (locs : List Loc) (ls : Array Slot), mt_H E M u H → va_S (mt_A E) s.heap H locs → lv_has ls 8 [(0, .ref (E.2.1 147)), (1, .int a1), (2, .int a2), (3, .int a3), (6, .int x11), (7, .int x12)] → W p l e (headSpec wsX12_unheard ({ frames := 3, cells := 0, slots := 0, locals := 73 } : Room)).room s mid (([.ref (E.2.1 147), .int a1, .int a2, .int a3, .int a4] : List Value).toArray) below meth c0 H locs 0 0 (MQ below (mt_Qi E r M' u) (([.ref (E.2.1 147), .int a1, .int a2, .int a3, .int a4] : List Value).toArray) s 0 0 (mt_A E)) (F0 mid 72 ls [])) ?_ _ _ _ hH hS (lv_sub hl [2, 3, 4, 5, 1, 0] rfl)
          intro k13 ih14 x11 x12 hf H locs ls hH hS hl
          refine lv_iload hx hb dX12_unheard_72 (lv_at hl 5 rfl) ?_
          refine lv_iconst (v := 4) hx hb dX12_unheard_74 (by decide) ?_
          refine lv_icmp_ge (tgt := 114) hx hb dX12_unheard_75 (by decide) (fun c15 => ?_) (fun c15 => ?_)
          · have hf := mt_ifT c15 hf
            refine lv_iload hx hb dX12_unheard_114 (lv_at hl 4 rfl) ?_
            obtain ⟨i1, i2⟩ := mt_so2 hf
            subst i1
            subst i2
            exact mt_iret hx hb hr hI hH hS hlocks dX12_unheard_116
          · have hf := mt_ifF c15 hf
            refine lv_aload_n hx hb dX12_unheard_78 rfl (lv_at hl 0 rfl) ?_
            refine lv_iload_n hx hb dX12_unheard_79 rfl (lv_at hl 1 rfl) ?_
            refine lv_iload_n hx hb dX12_unheard_80 rfl (lv_at hl 2 rfl) ?_
            refine lv_iload_n hx hb dX12_unheard_81 rfl (lv_at hl 3 rfl) ?_
            refine lv_iload hx hb dX12_unheard_82 (lv_at hl 5 rfl) ?_
            refine mt_b1I hf (fun r17 hg16 hf => ?_)
            refine mt_goi (mt_runV (i := 147) (As := [.int a1, .int a2, .int a3, .int x12]) (rest := []) ⟨hx, hb, hml, hown, hts⟩ hI hH (c_X12_meanBy l E a1 a2 a3 x12 M u _ hg16) (cwV 4 hts gX12_unheard_X12_meanBy rfl rfl rfl (by decide +kernel) ⟨Nat.le_of_ble_eq_true rfl, Nat.le_of_ble_eq_true rfl⟩) mt_T147 rfl rfl hl.1 rfl (Nat.le_of_ble_eq_true rfl) dX12_unheard_84 ⟨Nat.zero_le _, Nat.zero_le _⟩) hS (fun H locs hH hS => ?_)
            refine lv_aload_n hx hb dX12_unheard_87 rfl (lv_at hl 0 rfl) ?_
            refine lv_iload_n hx hb dX12_unheard_88 rfl (lv_at hl 1 rfl) ?_
            refine lv_iload_n hx hb dX12_unheard_89 rfl (lv_at hl 2 rfl) ?_
            refine lv_iload_n hx hb dX12_unheard_90 rfl (lv_at hl 3 rfl) ?_
            refine lv_iload hx hb dX12_unheard_91 (lv_at hl 4 rfl) ?_
            refine mt_b1I hf (fun r19 hg18 hf => ?_)
            refine mt_goi (mt_runV (i := 147) (As := [.int a1, .int a2, .int a3, .int x11]) (rest := [.int r17]) ⟨hx, hb, hml, hown, hts⟩ hI hH (c_X12_meanBy l E a1 a2 a3 x11 M u _ hg18) (cwV 4 hts gX12_unheard_X12_meanBy rfl rfl rfl (by decide +kernel) ⟨Nat.le_of_ble_eq_true rfl, Nat.le_of_ble_eq_true rfl⟩) mt_T147 rfl rfl hl.1 rfl (Nat.le_of_ble_eq_true rfl) dX12_unheard_93 ⟨Nat.zero_le _, Nat.zero_le _⟩) hS (fun H locs hH hS => ?_)
            refine mt_jn1 hf (fun (v20 : Int32) => ∀ (H : Heap) (locs : List Loc) (ls : Array Slot), mt_H E M u H → va_S (mt_A E) s.heap H locs → lv_has ls 8 [(0, .ref (E.2.1 147)), (1, .int a1), (2, .int a2), (3, .int a3), (7, .int x12)] → W p l e (headSpec wsX12_unheard ({ frames := 3, cells := 0, slots := 0, locals := 73 } : Room)).room s mid (([.ref (E.2.1 147), .int a1, .int a2, .int a3, .int a4] : List Value).toArray) below meth c0 H locs 0 0 (MQ below (mt_Qi E r M' u) (([.ref (E.2.1 147), .int a1, .int a2, .int a3, .int a4] : List Value).toArray) s 0 0 (mt_A E)) (F0 mid 106 ls [.int v20])) ?_ ?_
            · intro v20 hf H locs ls hH hS hl
              refine lv_istore (lv' := [(6, .int v20), (0, .ref (E.2.1 147)), (1, .int a1), (2, .int a2), (3, .int a3), (7, .int x12)]) hx hb dX12_unheard_106 hl (by decide) rfl (fun ls hl => ?_)
              refine mt_ltI hf (fun x23 ex23 hf => ?_)
              refine lv_iinc (v := x23) (lv' := [(7, .int x23), (6, .int v20), (0, .ref (E.2.1 147)), (1, .int a1), (2, .int a2), (3, .int a3)]) hx hb dX12_unheard_108 hl (k := 5) rfl (by rw [ex23]; rfl) (by decide) rfl (fun ls hl => ?_)
              refine lv_goto (tgt := 72) hx hb dX12_unheard_111 (by decide) ?_
              exact ih14 v20 x23 hf _ _ _ hH hS (lv_sub hl [2, 3, 4, 5, 1, 0] rfl)
            · intro j21 hj22 hf
              refine lv_icmp_ge (tgt := 104) hx hb dX12_unheard_96 (by decide) (fun c24 => ?_) (fun c24 => ?_)
              · have hf := mt_ifT c24 hf
                refine lv_iload hx hb dX12_unheard_104 (lv_at hl 4 rfl) ?_
                exact hj22 x11 hf _ _ _ hH hS (lv_sub hl [0, 1, 2, 3, 5] rfl)
              · have hf := mt_ifF c24 hf
                refine lv_iload hx hb dX12_unheard_99 (lv_at hl 5 rfl) ?_
                refine lv_goto (tgt := 106) hx hb dX12_unheard_101 (by decide) ?_
                exact hj22 x12 hf _ _ _ hH hS (lv_sub hl [0, 1, 2, 3, 5] rfl)
        · have hf := mt_ifF c10 hf
          refine lv_aload_n hx hb dX12_unheard_56 rfl (lv_at hl 0 rfl) ?_
          refine lv_iload_n hx hb dX12_unheard_57 rfl (lv_at hl 1 rfl) ?_
          refine lv_iload_n hx hb dX12_unheard_58 rfl (lv_at hl 2 rfl) ?_
          refine lv_iload_n hx hb dX12_unheard_59 rfl (lv_at hl 3 rfl) ?_
          refine lv_iload hx hb dX12_unheard_60 (lv_at hl 4 rfl) ?_
          refine mt_b1I hf (fun r26 hg25 hf => ?_)
          refine mt_goi (mt_runV (i := 147) (As := [.int a1, .int a2, .int a3, .int a4]) (rest := []) ⟨hx, hb, hml, hown, hts⟩ hI hH (c_X12_meanBy l E a1 a2 a3 a4 M u _ hg25) (cwV 4 hts gX12_unheard_X12_meanBy rfl rfl rfl (by decide +kernel) ⟨Nat.le_of_ble_eq_true rfl, Nat.le_of_ble_eq_true rfl⟩) mt_T147 rfl rfl hl.1 rfl (Nat.le_of_ble_eq_true rfl) dX12_unheard_62 ⟨Nat.zero_le _, Nat.zero_le _⟩) hS (fun H locs hH hS => ?_)
          obtain ⟨i1, i2⟩ := mt_so2 hf
          subst i1
          subst i2
          exact mt_iret hx hb hr hI hH hS hlocks dX12_unheard_65
      · have hf := mt_ifF c9 hf
        refine lv_aload_n hx hb dX12_unheard_43 rfl (lv_at hl 0 rfl) ?_
        refine lv_iload hx hb dX12_unheard_44 (lv_at hl 5 rfl) ?_
        refine mt_b2I hf (fun r28 M29 hg27 hf => ?_)
        refine mt_goi (mt_runV (i := 147) (As := [.int x6]) (rest := []) ⟨hx, hb, hml, hown, hts⟩ hI hH (c_X12_no l E x6 M u _ _ hg27) (cwV 1 hts gX12_unheard_X12_no rfl rfl rfl (by decide +kernel) ⟨Nat.le_of_ble_eq_true rfl, Nat.le_of_ble_eq_true rfl⟩) mt_T147 rfl rfl hl.1 rfl (Nat.le_of_ble_eq_true rfl) dX12_unheard_46 ⟨Nat.zero_le _, Nat.zero_le _⟩) hS (fun H locs hH hS => ?_)
        obtain ⟨i1, i2⟩ := mt_so2 hf
        subst i1
        subst i2
        exact mt_iret hx hb hr hI hH hS hlocks dX12_unheard_49
    · intro j7 hj8 hf
      refine lv_if_ne (tgt := 38) hx hb dX12_unheard_21 (by decide) (fun c30 => ?_) (fun c30 => ?_)
      · have hf := mt_ifF c30 hf
        exact hj8 v3 hf _ _ _ hH hS (lv_sub hl [1, 2, 3, 4, 5, 0] rfl)
      · have hf := mt_ifT c30 hf
        refine lv_iload hx hb dX12_unheard_24 (lv_at hl 5 rfl) ?_
        refine lv_iconst (v := 0) hx hb dX12_unheard_26 (by decide) ?_
        refine lv_iconst (v := 4) hx hb dX12_unheard_27 (by decide) ?_
        refine mt_b1I hf (fun r32 hg31 hf => ?_)
        refine mt_goi (mt_runS (As := [.int a4, .int (0 : Int32), .int (4 : Int32)]) (rest := []) ⟨hx, hb, hml, hown, hts⟩ hI hH (c_X12_isIn l E a4 (0 : Int32) (4 : Int32) M u _ hg31) (va_cwS 3 hts gX12_unheard_X12_isIn rfl rfl rfl (by decide +kernel) ⟨Nat.le_of_ble_eq_true rfl, Nat.le_of_ble_eq_true rfl⟩) rfl hl.1 rfl (Nat.le_of_ble_eq_true rfl) dX12_unheard_28 ⟨Nat.zero_le _, Nat.zero_le _⟩) hS (fun H locs hH hS => ?_)
        refine lv_if_ne (tgt := 38) hx hb dX12_unheard_31 (by decide) (fun c33 => ?_) (fun c33 => ?_)
        · have hf := mt_ifF c33 hf
          exact hj8 v3 hf _ _ _ hH hS (lv_sub hl [1, 2, 3, 4, 5, 0] rfl)
        · have hf := mt_ifT c33 hf
          refine lv_bipush (v := (-2)) hx hb dX12_unheard_34 (by decide) ?_
          refine lv_istore (lv' := [(5, .int (-2 : Int32)), (0, .ref (E.2.1 147)), (1, .int a1), (2, .int a2), (3, .int a3), (4, .int a4)]) hx hb dX12_unheard_36 hl (by decide) rfl (fun ls hl => ?_)
          exact hj8 (-2 : Int32) hf _ _ _ hH hS (lv_sub hl [1, 2, 3, 4, 5, 0] rfl)
  · intro j4 hj5 hf
    refine lv_if_ne (tgt := 12) hx hb dX12_unheard_5 (by decide) (fun c34 => ?_) (fun c34 => ?_)
    · have hf := mt_ifF c34 hf
      refine lv_iload_n hx hb dX12_unheard_12 rfl (lv_at hl 2 rfl) ?_
      refine lv_iload_n hx hb dX12_unheard_13 rfl (lv_at hl 3 rfl) ?_
      refine mt_b1I hf (fun r36 hg35 hf => ?_)
      refine mt_goi (mt_runS (As := [.int a2, .int a3]) (rest := []) ⟨hx, hb, hml, hown, hts⟩ hI hH (c_X12_notTenths l E a2 a3 M u _ hg35) (va_cwS 2 hts gX12_unheard_X12_notTenths rfl rfl rfl (by decide +kernel) ⟨Nat.le_of_ble_eq_true rfl, Nat.le_of_ble_eq_true rfl⟩) rfl hl.1 rfl (Nat.le_of_ble_eq_true rfl) dX12_unheard_14 ⟨Nat.zero_le _, Nat.zero_le _⟩) hS (fun H locs hH hS => ?_)
      exact hj5 r36 hf _ _ _ hH hS (lv_sub hl [0, 1, 2, 3, 4] rfl)
    · have hf := mt_ifT c34 hf
      refine lv_iconst (v := (-1)) hx hb dX12_unheard_8 (by decide) ?_
      refine lv_goto (tgt := 17) hx hb dX12_unheard_9 (by decide) ?_
      exact hj5 (-1 : Int32) hf _ _ _ hH hS (lv_sub hl [0, 1, 2, 3, 4] rfl)

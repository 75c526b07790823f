/-! THE WALKS, laid by program: each method returns what its pure function says, and leaves the memory so -/
set_option maxHeartbeats 4000000 in
set_option maxRecDepth 100000 in
theorem c_X12_row (l : Launch) (E : mt_E) (a1 : Int32) (M : mt_M) (u : mt_U) (r : Int32) (M' : mt_M) (hf : f_X12_row a1 M = some (r, M')) : Met l yX12_row wsX12_row ({ frames := 1, cells := 0, slots := 0, locals := 22 } : Room) (mt_P E [.ref (E.2.1 147), .int a1] M u) (mt_Qi E r M' u) 0 0 (mt_A E) := by
  refine Met.ofW (cc := cX12_row) (maxL := 3) (ret := (some .int)) (by decide) rfl ?_
  intro p e s mid args below meth c0 s₁ B hml hv
  obtain ⟨rfl, hI, hH⟩ := hv
  have hx := B.exec
  have hb := B.bytes
  have hr := B.returns
  have hts := atoms_spec (ws := wsX12_row) B.pre
  have hown : s.vm.findClass RX12 = some mid.cls := findClass_of_methodNamed B.named
  have hlocks := B.notSynchronized
  have hS : va_S (mt_A E) s.heap s.heap [] := va_S.rf
  have hl := lv_entry ([.ref (E.2.1 147), .int a1]) (n := 3) (Nat.le_of_ble_eq_true rfl)
  rw [lg_entry_eq]
  generalize (lg_sl ([.ref (E.2.1 147), .int a1]) ++ List.replicate (3 - (lg_sl ([.ref (E.2.1 147), .int a1])).length) Slot.unset).toArray = ls at hl ⊢
  have hl : lv_has ls 3 [(0, .ref (E.2.1 147)), (1, .int a1)] := hl
  unfold f_X12_row at hf
  have kw0 := hts (.fieldLink RX12 53 "MilkTwiceModel" "row" "[I") (List.mem_of_getElem? (i := 2) rfl)
  have kw1 := hts (.fieldLink RX12 285 "MilkTwiceModel" "rowMany" "I") (List.mem_of_getElem? (i := 1) rfl)
  have hinX12 : ∀ w ∈ u_ws RX12 TX12 29, w ∈ wsX12_row := fun w h => List.mem_cons_of_mem _ (List.mem_append_right _ h)
  refine lv_iload_n hx hb dX12_row_0 rfl (lv_at hl 1 rfl) ?_
  refine lv_iconst (v := 0) hx hb dX12_row_1 (by decide) ?_
  refine lv_bipush (v := 99) hx hb dX12_row_2 (by decide) ?_
  refine mt_b1I hf (fun r2 hg1 hf => ?_)
  refine mt_goi (mt_runS (As := [.int a1, .int (0 : Int32), .int (99 : Int32)]) (rest := []) ⟨hx, hb, hml, hown, hts⟩ hI hH (c_X12_bound l E a1 (0 : Int32) (99 : Int32) M u _ hg1) (va_cwS 3 hts gX12_row_X12_bound rfl rfl rfl (by decide +kernel) ⟨Nat.le_of_ble_eq_true rfl, Nat.le_of_ble_eq_true rfl⟩) rfl hl.1 rfl (Nat.le_of_ble_eq_true rfl) dX12_row_4 ⟨Nat.zero_le _, Nat.zero_le _⟩) hS (fun H locs hH hS => ?_)
  refine lv_istore_n (lv' := [(2, .int r2), (0, .ref (E.2.1 147)), (1, .int a1)]) hx hb dX12_row_7 rfl hl (by decide) rfl (fun ls hl => ?_)
  refine lv_iload_n hx hb dX12_row_8 rfl (lv_at hl 0 rfl) ?_
  refine mt_jn1 hf (fun (x3 : Int32) => ∀ (H : Heap) (locs : List Loc) (ls : Array Slot), mt_H E M u H → va_S (mt_A E) s.heap H locs → lv_has ls 3 [(0, .ref (E.2.1 147)), (1, .int a1), (2, .int x3)] → W p l e (headSpec wsX12_row ({ frames := 1, cells := 0, slots := 0, locals := 22 } : Room)).room s mid (([.ref (E.2.1 147), .int a1] : List Value).toArray) below meth c0 H locs 0 0 (MQ below (mt_Qi E r M' u) (([.ref (E.2.1 147), .int a1] : List Value).toArray) s 0 0 (mt_A E)) (F0 mid 24 ls [])) ?_ ?_
  · intro x3 hf H locs ls hH hS hl
    refine lv_iload_n hx hb dX12_row_24 rfl (lv_at hl 2 rfl) ?_
    refine lv_if_eq (tgt := 34) hx hb dX12_row_25 (by decide) (fun c6 => ?_) (fun c6 => ?_)
    · have hf := mt_ifT c6 hf
      refine lv_aload_n hx hb dX12_row_34 rfl (lv_at hl 0 rfl) ?_
      refine mt_getr (C := RX12) (T := TX12) (N := 29) hx hb hts hinX12 hown hI hH mt_T147 rfl 26 (by decide) kw0 rfl rfl dX12_row_35 ?_
      refine lv_aload_n hx hb dX12_row_38 rfl (lv_at hl 0 rfl) ?_
      refine mt_geti (C := RX12) (T := TX12) (N := 29) hx hb hts hinX12 hown hI hH mt_T147 rfl 27 (by decide) kw1 rfl rfl dX12_row_39 ?_
      refine lv_iload_n hx hb dX12_row_42 rfl (lv_at hl 1 rfl) ?_
      refine mt_ciI hf (fun q8 hf => ?_)
      refine mt_iast hx hb hI hH hS mt_T162 q8 dX12_row_43 (fun H locs hH hS => ?_)
      refine mt_ltI hf (fun M7 eM7 hf => ?_)
      rw [← eM7] at hH
      refine lv_aload_n hx hb dX12_row_44 rfl (lv_at hl 0 rfl) ?_
      refine lv_dup hx hb dX12_row_45 rfl ?_
      refine mt_geti (C := RX12) (T := TX12) (N := 29) hx hb hts hinX12 hown hI hH mt_T147 rfl 27 (by decide) kw1 rfl rfl dX12_row_46 ?_
      refine lv_iconst (v := 1) hx hb dX12_row_49 (by decide) ?_
      refine lv_iadd hx hb dX12_row_50 ?_
      refine mt_puti (ty := .int) (C := RX12) (T := TX12) (N := 29) hx hb hts hinX12 tyX12 tyX12_ok nmX12 hown hI hH hS mt_T147 rfl 27 (by decide) kw1 rfl rfl (by decide +kernel) rfl rfl rfl dX12_row_51 (fun H locs hH hS => ?_)
      refine mt_ltI hf (fun M9 eM9 hf => ?_)
      rw [← eM9] at hH
      refine lv_aload_n hx hb dX12_row_54 rfl (lv_at hl 0 rfl) ?_
      refine mt_geti (C := RX12) (T := TX12) (N := 29) hx hb hts hinX12 hown hI hH mt_T147 rfl 27 (by decide) kw1 rfl rfl dX12_row_55 ?_
      obtain ⟨i1, i2⟩ := mt_so2 hf
      subst i1
      subst i2
      exact mt_iret hx hb hr hI hH hS hlocks dX12_row_58
    · have hf := mt_ifF c6 hf
      refine lv_aload_n hx hb dX12_row_28 rfl (lv_at hl 0 rfl) ?_
      refine lv_iload_n hx hb dX12_row_29 rfl (lv_at hl 2 rfl) ?_
      refine mt_b2I hf (fun r11 M12 hg10 hf => ?_)
      refine mt_goi (mt_runV (i := 147) (As := [.int x3]) (rest := []) ⟨hx, hb, hml, hown, hts⟩ hI hH (c_X12_no l E x3 M u _ _ hg10) (cwV 1 hts gX12_row_X12_no rfl rfl rfl (by decide +kernel) ⟨Nat.le_of_ble_eq_true rfl, Nat.le_of_ble_eq_true rfl⟩) mt_T147 rfl rfl hl.1 rfl (Nat.le_of_ble_eq_true rfl) dX12_row_30 ⟨Nat.zero_le _, Nat.zero_le _⟩) hS (fun H locs hH hS => ?_)
      obtain ⟨i1, i2⟩ := mt_so2 hf
      subst i1
      subst i2
      exact mt_iret hx hb hr hI hH hS hlocks dX12_row_33
  · intro j4 hj5 hf
    refine lv_if_ne (tgt := 24) hx hb dX12_row_9 (by decide) (fun c13 => ?_) (fun c13 => ?_)
    · have hf := mt_ifF c13 hf
      exact hj5 r2 hf _ _ _ hH hS (lv_sub hl [1, 2, 0] rfl)
    · have hf := mt_ifT c13 hf
      refine lv_aload_n hx hb dX12_row_12 rfl (lv_at hl 1 rfl) ?_
      refine mt_geti (C := RX12) (T := TX12) (N := 29) hx hb hts hinX12 hown hI hH mt_T147 rfl 27 (by decide) kw1 rfl rfl dX12_row_13 ?_
      refine lv_bipush (v := 12) hx hb dX12_row_16 (by decide) ?_
      refine lv_icmp_ne (tgt := 24) hx hb dX12_row_18 (by decide) (fun c14 => ?_) (fun c14 => ?_)
      · have hf := mt_ifF c14 hf
        exact hj5 r2 hf _ _ _ hH hS (lv_sub hl [1, 2, 0] rfl)
      · have hf := mt_ifT c14 hf
        refine lv_bipush (v := (-6)) hx hb dX12_row_21 (by decide) ?_
        refine lv_istore_n (lv' := [(2, .int (-6 : Int32)), (0, .ref (E.2.1 147)), (1, .int a1)]) hx hb dX12_row_23 rfl hl (by decide) rfl (fun ls hl => ?_)
        exact hj5 (-6 : Int32) hf _ _ _ hH hS (lv_sub hl [1, 2, 0] rfl)
set_option maxHeartbeats 4000000 in
set_option maxRecDepth 100000 in
theorem c_X12_judge (l : Launch) (E : mt_E) (a1 : Int32) (M : mt_M) (u : mt_U) (r : Int32) (M' : mt_M) (hf : f_X12_judge a1 M = some (r, M')) : Met l yX12_judge wsX12_judge ({ frames := 3, cells := 0, slots := 0, locals := 67 } : Room) (mt_P E [.ref (E.2.1 147), .int a1] M u) (mt_Qi E r M' u) 0 0 (mt_A E) := by
  refine Met.ofW (cc := cX12_judge) (maxL := 5) (ret := (some .int)) (by decide) rfl ?_
  intro p e s mid args below meth c0 s₁ B hml hv
  obtain ⟨rfl, hI, hH⟩ := hv
  have hx := B.exec
  have hb := B.bytes
  have hr := B.returns
  have hts := atoms_spec (ws := wsX12_judge) B.pre
  have hown : s.vm.findClass RX12 = some mid.cls := findClass_of_methodNamed B.named
  have hlocks := B.notSynchronized
  have hS : va_S (mt_A E) s.heap s.heap [] := va_S.rf
  have hl := lv_entry ([.ref (E.2.1 147), .int a1]) (n := 5) (Nat.le_of_ble_eq_true rfl)
  rw [lg_entry_eq]
  generalize (lg_sl ([.ref (E.2.1 147), .int a1]) ++ List.replicate (5 - (lg_sl ([.ref (E.2.1 147), .int a1])).length) Slot.unset).toArray = ls at hl ⊢
  have hl : lv_has ls 5 [(0, .ref (E.2.1 147)), (1, .int a1)] := hl
  unfold f_X12_judge at hf
  have kw0 := hts (.fieldLink RX12 285 "MilkTwiceModel" "rowMany" "I") (List.mem_of_getElem? (i := 1) rfl)
  have kw1 := hts (.fieldLink RX12 22 "MilkTwiceModel" "stocked" "[I") (List.mem_of_getElem? (i := 2) rfl)
  have kw2 := hts (.fieldLink RX12 53 "MilkTwiceModel" "row" "[I") (List.mem_of_getElem? (i := 3) rfl)
  have hinX12 : ∀ w ∈ u_ws RX12 TX12 29, w ∈ wsX12_judge := fun w h => List.mem_cons_of_mem _ (List.mem_append_right _ h)
  refine lv_aload_n hx hb dX12_judge_0 rfl (lv_at hl 0 rfl) ?_
  refine lv_iload_n hx hb dX12_judge_1 rfl (lv_at hl 1 rfl) ?_
  refine mt_b1I hf (fun r2 hg1 hf => ?_)
  refine mt_goi (mt_runV (i := 147) (As := [.int a1]) (rest := []) ⟨hx, hb, hml, hown, hts⟩ hI hH (c_X12_isThing l E a1 M u _ hg1) (cwV 1 hts gX12_judge_X12_isThing rfl rfl rfl (by decide +kernel) ⟨Nat.le_of_ble_eq_true rfl, Nat.le_of_ble_eq_true rfl⟩) mt_T147 rfl rfl hl.1 rfl (Nat.le_of_ble_eq_true rfl) dX12_judge_2 ⟨Nat.zero_le _, Nat.zero_le _⟩) hS (fun H locs hH hS => ?_)
  refine lv_if_ne (tgt := 14) hx hb dX12_judge_5 (by decide) (fun c3 => ?_) (fun c3 => ?_)
  · have hf := mt_ifF c3 hf
    refine lv_aload_n hx hb dX12_judge_14 rfl (lv_at hl 0 rfl) ?_
    refine mt_geti (C := RX12) (T := TX12) (N := 29) hx hb hts hinX12 hown hI hH mt_T147 rfl 27 (by decide) kw0 rfl rfl dX12_judge_15 ?_
    refine mt_lti hf (fun x4 ex4 hf => ?_)
    refine lv_istore_n (lv' := [(2, .int x4), (0, .ref (E.2.1 147)), (1, .int a1)]) hx hb dX12_judge_18 rfl hl (by decide) rfl (fun ls hl => ?_)
    refine lv_aload_n hx hb dX12_judge_19 rfl (lv_at hl 1 rfl) ?_
    refine lv_iconst (v := 0) hx hb dX12_judge_20 (by decide) ?_
    refine mt_puti (ty := .int) (C := RX12) (T := TX12) (N := 29) hx hb hts hinX12 tyX12 tyX12_ok nmX12 hown hI hH hS mt_T147 rfl 27 (by decide) kw0 rfl rfl (by decide +kernel) rfl rfl rfl dX12_judge_21 (fun H locs hH hS => ?_)
    refine mt_ltI hf (fun M5 eM5 hf => ?_)
    rw [← eM5] at hH
    refine lv_aload_n hx hb dX12_judge_24 rfl (lv_at hl 1 rfl) ?_
    refine mt_b1I hf (fun M7 hg6 hf => ?_)
    refine mt_gov (mt_runV (i := 147) (As := []) (rest := []) ⟨hx, hb, hml, hown, hts⟩ hI hH (c_X12_thinks l E M5 u _ hg6) (cwV 0 hts gX12_judge_X12_thinks rfl rfl rfl (by decide +kernel) ⟨Nat.le_of_ble_eq_true rfl, Nat.le_of_ble_eq_true rfl⟩) mt_T147 rfl rfl hl.1 rfl (Nat.le_of_ble_eq_true rfl) dX12_judge_25 ⟨Nat.zero_le _, Nat.zero_le _⟩) hS (fun H locs hH hS => ?_)
    refine lv_bipush (v := (-9)) hx hb dX12_judge_28 (by decide) ?_
    refine lv_istore_n (lv' := [(3, .int (-9 : Int32)), (2, .int x4), (0, .ref (E.2.1 147)), (1, .int a1)]) hx hb dX12_judge_30 rfl hl (by decide) rfl (fun ls hl => ?_)
    refine lv_iconst (v := 0) hx hb dX12_judge_31 (by decide) ?_
    refine lv_istore (lv' := [(4, .int (0 : Int32)), (3, .int (-9 : Int32)), (2, .int x4), (0, .ref (E.2.1 147)), (1, .int a1)]) hx hb dX12_judge_32 hl (by decide) rfl (fun ls hl => ?_)
    refine mt_lpI3 hf (fun (x8 : Int32) (x9 : Int32) (M10 : mt_M) => ∀ (H : Heap) (locs : List Loc) (ls : Array Slot), mt_H E M10 u H → va_S (mt_A E) s.heap H locs → lv_has ls 5 [(0, .ref (E.2.1 147)), (1, .int a1), (2, .int x4), (3, .int x8), (4, .int x9)] → W p l e (headSpec wsX12_judge ({ frames := 3, cells := 0, slots := 0, locals := 67 } : Room)).room s mid (([.ref (E.2.1 147), .int a1] : List Value).toArray) below meth c0 H locs 0 0 (MQ below (mt_Qi E r M' u) (([.ref (E.2.1 147), .int a1] : List Value).toArray) s 0 0 (mt_A E)) (F0 mid 34 ls [])) ?_ _ _ _ hH hS (lv_sub hl [3, 4, 2, 1, 0] rfl)
    intro k11 ih12 x8 x9 M10 hf H locs ls hH hS hl
    refine lv_iload hx hb dX12_judge_34 (lv_at hl 4 rfl) ?_
    refine lv_iload_n hx hb dX12_judge_36 rfl (lv_at hl 2 rfl) ?_
    refine mt_jn0 hf (∀ (H : Heap) (locs : List Loc) (ls : Array Slot), mt_H E M10 u H → va_S (mt_A E) s.heap H locs → lv_has ls 5 [(0, .ref (E.2.1 147)), (3, .int x8)] → W p l e (headSpec wsX12_judge ({ frames := 3, cells := 0, slots := 0, locals := 67 } : Room)).room s mid (([.ref (E.2.1 147), .int a1] : List Value).toArray) below meth c0 H locs 0 0 (MQ below (mt_Qi E r M' u) (([.ref (E.2.1 147), .int a1] : List Value).toArray) s 0 0 (mt_A E)) (F0 mid 79 ls [])) ?_ ?_
    · intro hf H locs ls hH hS hl
      refine lv_aload_n hx hb dX12_judge_79 rfl (lv_at hl 0 rfl) ?_
      refine mt_b1I hf (fun M16 hg15 hf => ?_)
      refine mt_gov (mt_runV (i := 147) (As := []) (rest := []) ⟨hx, hb, hml, hown, hts⟩ hI hH (c_X12_forgets l E M10 u _ hg15) (cwV 0 hts gX12_judge_X12_forgets rfl rfl rfl (by decide +kernel) ⟨Nat.le_of_ble_eq_true rfl, Nat.le_of_ble_eq_true rfl⟩) mt_T147 rfl rfl hl.1 rfl (Nat.le_of_ble_eq_true rfl) dX12_judge_80 ⟨Nat.zero_le _, Nat.zero_le _⟩) hS (fun H locs hH hS => ?_)
      refine lv_iload_n hx hb dX12_judge_83 rfl (lv_at hl 1 rfl) ?_
      obtain ⟨i1, i2⟩ := mt_so2 hf
      subst i1
      subst i2
      exact mt_iret hx hb hr hI hH hS hlocks dX12_judge_84
    · intro j13 hj14 hf
      refine lv_icmp_ge (tgt := 79) hx hb dX12_judge_37 (by decide) (fun c17 => ?_) (fun c17 => ?_)
      · have hf := mt_ifT c17 hf
        exact hj14 hf _ _ _ hH hS (lv_sub hl [0, 3] rfl)
      · have hf := mt_ifF c17 hf
        refine lv_iload_n hx hb dX12_judge_40 rfl (lv_at hl 3 rfl) ?_
        refine lv_if_ge (tgt := 79) hx hb dX12_judge_41 (by decide) (fun c18 => ?_) (fun c18 => ?_)
        · have hf := mt_ifT c18 hf
          exact hj14 hf _ _ _ hH hS (lv_sub hl [0, 3] rfl)
        · have hf := mt_ifF c18 hf
          refine lv_aload_n hx hb dX12_judge_44 rfl (lv_at hl 0 rfl) ?_
          refine mt_getr (C := RX12) (T := TX12) (N := 29) hx hb hts hinX12 hown hI hH mt_T147 rfl 4 (by decide) kw1 rfl rfl dX12_judge_45 ?_
          refine lv_iload_n hx hb dX12_judge_48 rfl (lv_at hl 1 rfl) ?_
          refine mt_ciI hf (fun q19 hf => ?_)
          refine mt_iald hx hb hI hH mt_T152 q19 dX12_judge_49 ?_
          refine lv_aload_n hx hb dX12_judge_50 rfl (lv_at hl 0 rfl) ?_
          refine mt_getr (C := RX12) (T := TX12) (N := 29) hx hb hts hinX12 hown hI hH mt_T147 rfl 26 (by decide) kw2 rfl rfl dX12_judge_51 ?_
          refine lv_iload hx hb dX12_judge_54 (lv_at hl 4 rfl) ?_
          refine mt_ciI hf (fun q20 hf => ?_)
          refine mt_iald hx hb hI hH mt_T162 q20 dX12_judge_56 ?_
          refine mt_jn1 hf (fun (v21 : Int32) => ∀ (H : Heap) (locs : List Loc) (ls : Array Slot), mt_H E M10 u H → va_S (mt_A E) s.heap H locs → lv_has ls 5 [(0, .ref (E.2.1 147)), (1, .int a1), (2, .int x4), (4, .int x9)] → W p l e (headSpec wsX12_judge ({ frames := 3, cells := 0, slots := 0, locals := 67 } : Room)).room s mid (([.ref (E.2.1 147), .int a1] : List Value).toArray) below meth c0 H locs 0 0 (MQ below (mt_Qi E r M' u) (([.ref (E.2.1 147), .int a1] : List Value).toArray) s 0 0 (mt_A E)) (F0 mid 67 ls [.int v21])) ?_ ?_
          · intro v21 hf H locs ls hH hS hl
            refine lv_istore_n (lv' := [(3, .int v21), (0, .ref (E.2.1 147)), (1, .int a1), (2, .int x4), (4, .int x9)]) hx hb dX12_judge_67 rfl hl (by decide) rfl (fun ls hl => ?_)
            refine lv_aload_n hx hb dX12_judge_68 rfl (lv_at hl 1 rfl) ?_
            refine mt_b2I hf (fun r25 M26 hg24 hf => ?_)
            refine mt_goi (mt_runV (i := 147) (As := []) (rest := []) ⟨hx, hb, hml, hown, hts⟩ hI hH (c_X12_goesDay l E M10 u _ _ hg24) (cwV 0 hts gX12_judge_X12_goesDay rfl rfl rfl (by decide +kernel) ⟨Nat.le_of_ble_eq_true rfl, Nat.le_of_ble_eq_true rfl⟩) mt_T147 rfl rfl hl.1 rfl (Nat.le_of_ble_eq_true rfl) dX12_judge_69 ⟨Nat.zero_le _, Nat.zero_le _⟩) hS (fun H locs hH hS => ?_)
            refine lv_pop hx hb dX12_judge_72 rfl ?_
            refine mt_ltI hf (fun x27 ex27 hf => ?_)
            refine lv_iinc (v := x27) (lv' := [(4, .int x27), (3, .int v21), (0, .ref (E.2.1 147)), (1, .int a1), (2, .int x4)]) hx hb dX12_judge_73 hl (k := 4) rfl (by rw [ex27]; rfl) (by decide) rfl (fun ls hl => ?_)
            refine lv_goto (tgt := 34) hx hb dX12_judge_76 (by decide) ?_
            exact ih12 v21 x27 M26 hf _ _ _ hH hS (lv_sub hl [2, 3, 4, 1, 0] rfl)
          · intro j22 hj23 hf
            refine lv_icmp_ne (tgt := 65) hx hb dX12_judge_57 (by decide) (fun c28 => ?_) (fun c28 => ?_)
            · have hf := mt_ifF c28 hf
              refine lv_iload hx hb dX12_judge_65 (lv_at hl 4 rfl) ?_
              exact hj23 x9 hf _ _ _ hH hS (lv_sub hl [0, 1, 2, 4] rfl)
            · have hf := mt_ifT c28 hf
              refine lv_bipush (v := (-9)) hx hb dX12_judge_60 (by decide) ?_
              refine lv_goto (tgt := 67) hx hb dX12_judge_62 (by decide) ?_
              exact hj23 (-9 : Int32) hf _ _ _ hH hS (lv_sub hl [0, 1, 2, 4] rfl)
  · have hf := mt_ifT c3 hf
    refine lv_aload_n hx hb dX12_judge_8 rfl (lv_at hl 0 rfl) ?_
    refine lv_iconst (v := (-1)) hx hb dX12_judge_9 (by decide) ?_
    refine mt_b2I hf (fun r30 M31 hg29 hf => ?_)
    refine mt_goi (mt_runV (i := 147) (As := [.int (-1 : Int32)]) (rest := []) ⟨hx, hb, hml, hown, hts⟩ hI hH (c_X12_no l E (-1 : Int32) M u _ _ hg29) (cwV 1 hts gX12_judge_X12_no rfl rfl rfl (by decide +kernel) ⟨Nat.le_of_ble_eq_true rfl, Nat.le_of_ble_eq_true rfl⟩) mt_T147 rfl rfl hl.1 rfl (Nat.le_of_ble_eq_true rfl) dX12_judge_10 ⟨Nat.zero_le _, Nat.zero_le _⟩) hS (fun H locs hH hS => ?_)
    obtain ⟨i1, i2⟩ := mt_so2 hf
    subst i1
    subst i2
    exact mt_iret hx hb hr hI hH hS hlocks dX12_judge_13
set_option maxHeartbeats 4000000 in
set_option maxRecDepth 100000 in
theorem c_X12_clear (l : Launch) (E : mt_E)  (M : mt_M) (u : mt_U) (r : Int32) (M' : mt_M) (hf : f_X12_clear M = some (r, M')) : Met l yX12_clear wsX12_clear ({ frames := 0, cells := 0, slots := 0, locals := 0 } : Room) (mt_P E [.ref (E.2.1 147)] M u) (mt_Qi E r M' u) 0 0 (mt_A E) := by
  refine Met.ofW (cc := cX12_clear) (maxL := 2) (ret := (some .int)) (by decide) rfl ?_
  intro p e s mid args below meth c0 s₁ B hml hv
  obtain ⟨rfl, hI, hH⟩ := hv
  have hx := B.exec
  have hb := B.bytes
  have hr := B.returns
  have hts := atoms_spec (ws := wsX12_clear) B.pre
  have hown : s.vm.findClass RX12 = some mid.cls := findClass_of_methodNamed B.named
  have hlocks := B.notSynchronized
  have hS : va_S (mt_A E) s.heap s.heap [] := va_S.rf
  have hl := lv_entry ([.ref (E.2.1 147)]) (n := 2) (Nat.le_of_ble_eq_true rfl)
  rw [lg_entry_eq]
  generalize (lg_sl ([.ref (E.2.1 147)]) ++ List.replicate (2 - (lg_sl ([.ref (E.2.1 147)])).length) Slot.unset).toArray = ls at hl ⊢
  have hl : lv_has ls 2 [(0, .ref (E.2.1 147))] := hl
  unfold f_X12_clear at hf
  have kw0 := hts (.fieldLink RX12 285 "MilkTwiceModel" "rowMany" "I") (List.mem_of_getElem? (i := 1) rfl)
  have hinX12 : ∀ w ∈ u_ws RX12 TX12 29, w ∈ wsX12_clear := fun w h => List.mem_cons_of_mem _ (List.mem_append_right _ h)
  refine lv_aload_n hx hb dX12_clear_0 rfl (lv_at hl 0 rfl) ?_
  refine mt_geti (C := RX12) (T := TX12) (N := 29) hx hb hts hinX12 hown hI hH mt_T147 rfl 27 (by decide) kw0 rfl rfl dX12_clear_1 ?_
  refine mt_lti hf (fun x1 ex1 hf => ?_)
  refine lv_istore_n (lv' := [(1, .int x1), (0, .ref (E.2.1 147))]) hx hb dX12_clear_4 rfl hl (by decide) rfl (fun ls hl => ?_)
  refine lv_aload_n hx hb dX12_clear_5 rfl (lv_at hl 1 rfl) ?_
  refine lv_iconst (v := 0) hx hb dX12_clear_6 (by decide) ?_
  refine mt_puti (ty := .int) (C := RX12) (T := TX12) (N := 29) hx hb hts hinX12 tyX12 tyX12_ok nmX12 hown hI hH hS mt_T147 rfl 27 (by decide) kw0 rfl rfl (by decide +kernel) rfl rfl rfl dX12_clear_7 (fun H locs hH hS => ?_)
  refine mt_ltI hf (fun M2 eM2 hf => ?_)
  rw [← eM2] at hH
  refine lv_iload_n hx hb dX12_clear_10 rfl (lv_at hl 0 rfl) ?_
  obtain ⟨i1, i2⟩ := mt_so2 hf
  subst i1
  subst i2
  exact mt_iret hx hb hr hI hH hS hlocks dX12_clear_11
set_option maxHeartbeats 4000000 in
set_option maxRecDepth 100000 in
theorem c_X12_lots (l : Launch) (E : mt_E) (a1 : Int32) (a2 : Int32) (a3 : Int32) (M : mt_M) (u : mt_U) (r : Int32) (M' : mt_M) (hf : f_X12_lots a1 a2 a3 M = some (r, M')) : Met l yX12_lots wsX12_lots ({ frames := 3, cells := 0, slots := 0, locals := 67 } : Room) (mt_P E [.ref (E.2.1 147), .int a1, .int a2, .int a3] M u) (mt_Qi E r M' u) 0 0 (mt_A E) := by
  refine Met.ofW (cc := cX12_lots) (maxL := 11) (ret := (some .int)) (by decide) rfl ?_
  intro p e s mid args below meth c0 s₁ B hml hv
  obtain ⟨rfl, hI, hH⟩ := hv
  have hx := B.exec
  have hb := B.bytes
  have hr := B.returns
  have hts := atoms_spec (ws := wsX12_lots) B.pre
  have hown : s.vm.findClass RX12 = some mid.cls := findClass_of_methodNamed B.named
  have hlocks := B.notSynchronized
  have hS : va_S (mt_A E) s.heap s.heap [] := va_S.rf
  have hl := lv_entry ([.ref (E.2.1 147), .int a1, .int a2, .int a3]) (n := 11) (Nat.le_of_ble_eq_true rfl)
  rw [lg_entry_eq]
  generalize (lg_sl ([.ref (E.2.1 147), .int a1, .int a2, .int a3]) ++ List.replicate (11 - (lg_sl ([.ref (E.2.1 147), .int a1, .int a2, .int a3])).length) Slot.unset).toArray = ls at hl ⊢
  have hl : lv_has ls 11 [(0, .ref (E.2.1 147)), (1, .int a1), (2, .int a2), (3, .int a3)] := hl
  unfold f_X12_lots at hf
  have kw0 := hts (.fieldLink RX12 31 "MilkTwiceModel" "sums" "[I") (List.mem_of_getElem? (i := 1) rfl)
  have kw1 := hts (.fieldLink RX12 59 "MilkTwiceModel" "things" "I") (List.mem_of_getElem? (i := 2) rfl)
  have kw2 := hts (.constant RX12 312 (1103515245)) (List.mem_of_getElem? (i := 3) rfl)
  have kw3 := hts (.constant RX12 313 (2147483647)) (List.mem_of_getElem? (i := 4) rfl)
  have kw4 := hts (.constant RX12 314 (65536)) (List.mem_of_getElem? (i := 5) rfl)
  have hinX12 : ∀ w ∈ u_ws RX12 TX12 29, w ∈ wsX12_lots := fun w h => List.mem_cons_of_mem _ (List.mem_append_right _ h)
  refine lv_iload_n hx hb dX12_lots_0 rfl (lv_at hl 1 rfl) ?_
  refine lv_iconst (v := 1) hx hb dX12_lots_1 (by decide) ?_
  refine lv_bipush (v := 20) hx hb dX12_lots_2 (by decide) ?_
  refine mt_b1I hf (fun r2 hg1 hf => ?_)
  refine mt_goi (mt_runS (As := [.int a1, .int (1 : Int32), .int (20 : Int32)]) (rest := []) ⟨hx, hb, hml, hown, hts⟩ hI hH (c_X12_bound l E a1 (1 : Int32) (20 : Int32) M u _ hg1) (va_cwS 3 hts gX12_lots_X12_bound rfl rfl rfl (by decide +kernel) ⟨Nat.le_of_ble_eq_true rfl, Nat.le_of_ble_eq_true rfl⟩) rfl hl.1 rfl (Nat.le_of_ble_eq_true rfl) dX12_lots_4 ⟨Nat.zero_le _, Nat.zero_le _⟩) hS (fun H locs hH hS => ?_)
  refine lv_istore (lv' := [(4, .int r2), (0, .ref (E.2.1 147)), (1, .int a1), (2, .int a2), (3, .int a3)]) hx hb dX12_lots_7 hl (by decide) rfl (fun ls hl => ?_)
  refine lv_iload hx hb dX12_lots_9 (lv_at hl 0 rfl) ?_
  refine mt_jn1 hf (fun (x3 : Int32) => ∀ (H : Heap) (locs : List Loc) (ls : Array Slot), mt_H E M u H → va_S (mt_A E) s.heap H locs → lv_has ls 11 [(0, .ref (E.2.1 147)), (1, .int a1), (2, .int a2), (3, .int a3), (4, .int x3)] → W p l e (headSpec wsX12_lots ({ frames := 3, cells := 0, slots := 0, locals := 67 } : Room)).room s mid (([.ref (E.2.1 147), .int a1, .int a2, .int a3] : List Value).toArray) below meth c0 H locs 0 0 (MQ below (mt_Qi E r M' u) (([.ref (E.2.1 147), .int a1, .int a2, .int a3] : List Value).toArray) s 0 0 (mt_A E)) (F0 mid 27 ls [])) ?_ ?_
  · intro x3 hf H locs ls hH hS hl
    refine lv_iload hx hb dX12_lots_27 (lv_at hl 4 rfl) ?_
    refine lv_if_eq (tgt := 39) hx hb dX12_lots_29 (by decide) (fun c6 => ?_) (fun c6 => ?_)
    · have hf := mt_ifT c6 hf
      refine lv_iload_n hx hb dX12_lots_39 rfl (lv_at hl 2 rfl) ?_
      refine lv_istore (lv' := [(5, .int a2), (0, .ref (E.2.1 147)), (1, .int a1), (2, .int a2), (3, .int a3), (4, .int x3)]) hx hb dX12_lots_40 hl (by decide) rfl (fun ls hl => ?_)
      refine lv_iconst (v := 0) hx hb dX12_lots_42 (by decide) ?_
      refine lv_istore (lv' := [(6, .int (0 : Int32)), (5, .int a2), (0, .ref (E.2.1 147)), (1, .int a1), (2, .int a2), (3, .int a3), (4, .int x3)]) hx hb dX12_lots_43 hl (by decide) rfl (fun ls hl => ?_)
      refine lv_iconst (v := 0) hx hb dX12_lots_45 (by decide) ?_
      refine lv_istore (lv' := [(7, .int (0 : Int32)), (6, .int (0 : Int32)), (5, .int a2), (0, .ref (E.2.1 147)), (1, .int a1), (2, .int a2), (3, .int a3), (4, .int x3)]) hx hb dX12_lots_46 hl (by decide) rfl (fun ls hl => ?_)
      refine lv_iconst (v := 0) hx hb dX12_lots_48 (by decide) ?_
      refine lv_istore (lv' := [(8, .int (0 : Int32)), (7, .int (0 : Int32)), (6, .int (0 : Int32)), (5, .int a2), (0, .ref (E.2.1 147)), (1, .int a1), (2, .int a2), (3, .int a3), (4, .int x3)]) hx hb dX12_lots_49 hl (by decide) rfl (fun ls hl => ?_)
      refine mt_lpI5 hf (fun (x7 : Int32) (x8 : Int32) (x9 : Int32) (x10 : Int32) (M11 : mt_M) => ∀ (H : Heap) (locs : List Loc) (ls : Array Slot), mt_H E M11 u H → va_S (mt_A E) s.heap H locs → lv_has ls 11 [(0, .ref (E.2.1 147)), (1, .int a1), (3, .int a3), (5, .int x7), (6, .int x8), (7, .int x9), (8, .int x10)] → W p l e (headSpec wsX12_lots ({ frames := 3, cells := 0, slots := 0, locals := 67 } : Room)).room s mid (([.ref (E.2.1 147), .int a1, .int a2, .int a3] : List Value).toArray) below meth c0 H locs 0 0 (MQ below (mt_Qi E r M' u) (([.ref (E.2.1 147), .int a1, .int a2, .int a3] : List Value).toArray) s 0 0 (mt_A E)) (F0 mid 51 ls [])) ?_ _ _ _ hH hS (lv_sub hl [4, 5, 7, 3, 2, 1, 0] rfl)
      intro k12 ih13 x7 x8 x9 x10 M11 hf H locs ls hH hS hl
      refine lv_iload hx hb dX12_lots_51 (lv_at hl 6 rfl) ?_
      refine lv_iload_n hx hb dX12_lots_53 rfl (lv_at hl 1 rfl) ?_
      refine lv_icmp_ge (tgt := 188) hx hb dX12_lots_54 (by decide) (fun c14 => ?_) (fun c14 => ?_)
      · have hf := mt_ifT c14 hf
        refine lv_iload_n hx hb dX12_lots_188 rfl (lv_at hl 2 rfl) ?_
        refine lv_if_ne (tgt := 197) hx hb dX12_lots_189 (by decide) (fun c15 => ?_) (fun c15 => ?_)
        · have hf := mt_ifF c15 hf
          refine lv_iload hx hb dX12_lots_197 (lv_at hl 5 rfl) ?_
          obtain ⟨i1, i2⟩ := mt_so2 hf
          subst i1
          subst i2
          exact mt_iret hx hb hr hI hH hS hlocks dX12_lots_199
        · have hf := mt_ifT c15 hf
          refine lv_iload hx hb dX12_lots_192 (lv_at hl 4 rfl) ?_
          refine lv_goto (tgt := 199) hx hb dX12_lots_194 (by decide) ?_
          obtain ⟨i1, i2⟩ := mt_so2 hf
          subst i1
          subst i2
          exact mt_iret hx hb hr hI hH hS hlocks dX12_lots_199
      · have hf := mt_ifF c14 hf
        refine lv_aload_n hx hb dX12_lots_57 rfl (lv_at hl 0 rfl) ?_
        refine mt_b1I hf (fun M17 hg16 hf => ?_)
        refine mt_gov (mt_runV (i := 147) (As := []) (rest := []) ⟨hx, hb, hml, hown, hts⟩ hI hH (c_X12_thinks l E M11 u _ hg16) (cwV 0 hts gX12_lots_X12_thinks rfl rfl rfl (by decide +kernel) ⟨Nat.le_of_ble_eq_true rfl, Nat.le_of_ble_eq_true rfl⟩) mt_T147 rfl rfl hl.1 rfl (Nat.le_of_ble_eq_true rfl) dX12_lots_58 ⟨Nat.zero_le _, Nat.zero_le _⟩) hS (fun H locs hH hS => ?_)
        refine lv_iload hx hb dX12_lots_61 (lv_at hl 4 rfl) ?_
        refine lv_aload_n hx hb dX12_lots_63 rfl (lv_at hl 0 rfl) ?_
        refine mt_getr (C := RX12) (T := TX12) (N := 29) hx hb hts hinX12 hown hI hH mt_T147 rfl 7 (by decide) kw0 rfl rfl dX12_lots_64 ?_
        refine lv_iconst (v := 1) hx hb dX12_lots_67 (by decide) ?_
        refine mt_iald hx hb hI hH mt_T155 (mt_vl (by decide)) dX12_lots_68 ?_
        refine lv_isub hx hb dX12_lots_69 ?_
        refine mt_lti hf (fun x18 ex18 hf => ?_)
        refine lv_istore (lv' := [(6, .int x18), (0, .ref (E.2.1 147)), (1, .int a1), (3, .int a3), (5, .int x7), (7, .int x9), (8, .int x10)]) hx hb dX12_lots_70 hl (by decide) rfl (fun ls hl => ?_)
        refine lv_iload hx hb dX12_lots_72 (lv_at hl 5 rfl) ?_
        refine lv_aload_n hx hb dX12_lots_74 rfl (lv_at hl 1 rfl) ?_
        refine mt_getr (C := RX12) (T := TX12) (N := 29) hx hb hts hinX12 hown hI hH mt_T147 rfl 7 (by decide) kw0 rfl rfl dX12_lots_75 ?_
        refine lv_iconst (v := 0) hx hb dX12_lots_78 (by decide) ?_
        refine mt_iald hx hb hI hH mt_T155 (mt_vl (by decide)) dX12_lots_79 ?_
        refine lv_isub hx hb dX12_lots_80 ?_
        refine mt_lti hf (fun x19 ex19 hf => ?_)
        refine lv_istore (lv' := [(7, .int x19), (6, .int x18), (0, .ref (E.2.1 147)), (1, .int a1), (3, .int a3), (5, .int x7), (8, .int x10)]) hx hb dX12_lots_81 hl (by decide) rfl (fun ls hl => ?_)
        refine lv_iconst (v := 0) hx hb dX12_lots_83 (by decide) ?_
        refine lv_istore (lv' := [(9, .int (0 : Int32)), (7, .int x19), (6, .int x18), (0, .ref (E.2.1 147)), (1, .int a1), (3, .int a3), (5, .int x7), (8, .int x10)]) hx hb dX12_lots_84 hl (by decide) rfl (fun ls hl => ?_)
        refine mt_lpI3 hf (fun (x20 : Int32) (x21 : Int32) (M22 : mt_M) => ∀ (H : Heap) (locs : List Loc) (ls : Array Slot), mt_H E M22 u H → va_S (mt_A E) s.heap H locs → lv_has ls 11 [(0, .ref (E.2.1 147)), (1, .int a1), (3, .int a3), (5, .int x20), (6, .int x18), (7, .int x19), (8, .int x10), (9, .int x21)] → W p l e (headSpec wsX12_lots ({ frames := 3, cells := 0, slots := 0, locals := 67 } : Room)).room s mid (([.ref (E.2.1 147), .int a1, .int a2, .int a3] : List Value).toArray) below meth c0 H locs 0 0 (MQ below (mt_Qi E r M' u) (([.ref (E.2.1 147), .int a1, .int a2, .int a3] : List Value).toArray) s 0 0 (mt_A E)) (F0 mid 86 ls [])) ?_ _ _ _ hH hS (lv_sub hl [3, 4, 5, 6, 2, 1, 7, 0] rfl)
        intro k23 ih24 x20 x21 M22 hf H locs ls hH hS hl
        refine lv_iload hx hb dX12_lots_86 (lv_at hl 7 rfl) ?_
        refine lv_bipush (v := 7) hx hb dX12_lots_88 (by decide) ?_
        refine lv_icmp_ge (tgt := 156) hx hb dX12_lots_90 (by decide) (fun c25 => ?_) (fun c25 => ?_)
        · have hf := mt_ifT c25 hf
          refine lv_iload hx hb dX12_lots_156 (lv_at hl 4 rfl) ?_
          refine lv_aload_n hx hb dX12_lots_158 rfl (lv_at hl 0 rfl) ?_
          refine mt_getr (C := RX12) (T := TX12) (N := 29) hx hb hts hinX12 hown hI hH mt_T147 rfl 7 (by decide) kw0 rfl rfl dX12_lots_159 ?_
          refine lv_iconst (v := 1) hx hb dX12_lots_162 (by decide) ?_
          refine mt_iald hx hb hI hH mt_T155 (mt_vl (by decide)) dX12_lots_163 ?_
          refine lv_iadd hx hb dX12_lots_164 ?_
          refine mt_lti hf (fun x26 ex26 hf => ?_)
          refine lv_istore (lv' := [(6, .int x26), (0, .ref (E.2.1 147)), (1, .int a1), (3, .int a3), (5, .int x20), (7, .int x19), (8, .int x10), (9, .int x21)]) hx hb dX12_lots_165 hl (by decide) rfl (fun ls hl => ?_)
          refine lv_iload hx hb dX12_lots_167 (lv_at hl 5 rfl) ?_
          refine lv_aload_n hx hb dX12_lots_169 rfl (lv_at hl 1 rfl) ?_
          refine mt_getr (C := RX12) (T := TX12) (N := 29) hx hb hts hinX12 hown hI hH mt_T147 rfl 7 (by decide) kw0 rfl rfl dX12_lots_170 ?_
          refine lv_iconst (v := 0) hx hb dX12_lots_173 (by decide) ?_
          refine mt_iald hx hb hI hH mt_T155 (mt_vl (by decide)) dX12_lots_174 ?_
          refine lv_iadd hx hb dX12_lots_175 ?_
          refine mt_lti hf (fun x27 ex27 hf => ?_)
          refine lv_istore (lv' := [(7, .int x27), (6, .int x26), (0, .ref (E.2.1 147)), (1, .int a1), (3, .int a3), (5, .int x20), (8, .int x10), (9, .int x21)]) hx hb dX12_lots_176 hl (by decide) rfl (fun ls hl => ?_)
          refine lv_aload_n hx hb dX12_lots_178 rfl (lv_at hl 2 rfl) ?_
          refine mt_b1I hf (fun M29 hg28 hf => ?_)
          refine mt_gov (mt_runV (i := 147) (As := []) (rest := []) ⟨hx, hb, hml, hown, hts⟩ hI hH (c_X12_forgets l E M22 u _ hg28) (cwV 0 hts gX12_lots_X12_forgets rfl rfl rfl (by decide +kernel) ⟨Nat.le_of_ble_eq_true rfl, Nat.le_of_ble_eq_true rfl⟩) mt_T147 rfl rfl hl.1 rfl (Nat.le_of_ble_eq_true rfl) dX12_lots_179 ⟨Nat.zero_le _, Nat.zero_le _⟩) hS (fun H locs hH hS => ?_)
          refine mt_ltI hf (fun x30 ex30 hf => ?_)
          refine lv_iinc (v := x30) (lv' := [(8, .int x30), (7, .int x27), (6, .int x26), (0, .ref (E.2.1 147)), (1, .int a1), (3, .int a3), (5, .int x20), (9, .int x21)]) hx hb dX12_lots_182 hl (k := 6) rfl (by rw [ex30]; rfl) (by decide) rfl (fun ls hl => ?_)
          refine lv_goto (tgt := 51) hx hb dX12_lots_185 (by decide) ?_
          exact ih13 x20 x26 x27 x30 M29 hf _ _ _ hH hS (lv_sub hl [3, 4, 5, 6, 2, 1, 0] rfl)
        · have hf := mt_ifF c25 hf
          refine lv_iconst (v := 0) hx hb dX12_lots_93 (by decide) ?_
          refine lv_istore (lv' := [(10, .int (0 : Int32)), (0, .ref (E.2.1 147)), (1, .int a1), (3, .int a3), (5, .int x20), (6, .int x18), (7, .int x19), (8, .int x10), (9, .int x21)]) hx hb dX12_lots_94 hl (by decide) rfl (fun ls hl => ?_)
          refine mt_lpI3 hf (fun (x31 : Int32) (x32 : Int32) (M33 : mt_M) => ∀ (H : Heap) (locs : List Loc) (ls : Array Slot), mt_H E M33 u H → va_S (mt_A E) s.heap H locs → lv_has ls 11 [(0, .ref (E.2.1 147)), (1, .int a1), (3, .int a3), (5, .int x31), (6, .int x18), (7, .int x19), (8, .int x10), (9, .int x21), (10, .int x32)] → W p l e (headSpec wsX12_lots ({ frames := 3, cells := 0, slots := 0, locals := 67 } : Room)).room s mid (([.ref (E.2.1 147), .int a1, .int a2, .int a3] : List Value).toArray) below meth c0 H locs 0 0 (MQ below (mt_Qi E r M' u) (([.ref (E.2.1 147), .int a1, .int a2, .int a3] : List Value).toArray) s 0 0 (mt_A E)) (F0 mid 96 ls [])) ?_ _ _ _ hH hS (lv_sub hl [1, 2, 3, 4, 5, 6, 7, 8, 0] rfl)
          intro k34 ih35 x31 x32 M33 hf H locs ls hH hS hl
          refine lv_iload hx hb dX12_lots_96 (lv_at hl 8 rfl) ?_
          refine lv_aload_n hx hb dX12_lots_98 rfl (lv_at hl 0 rfl) ?_
          refine mt_geti (C := RX12) (T := TX12) (N := 29) hx hb hts hinX12 hown hI hH mt_T147 rfl 8 (by decide) kw1 rfl rfl dX12_lots_99 ?_
          refine lv_icmp_ge (tgt := 145) hx hb dX12_lots_102 (by decide) (fun c36 => ?_) (fun c36 => ?_)
          · have hf := mt_ifT c36 hf
            refine lv_aload_n hx hb dX12_lots_145 rfl (lv_at hl 0 rfl) ?_
            refine mt_b2I hf (fun r38 M39 hg37 hf => ?_)
            refine mt_goi (mt_runV (i := 147) (As := []) (rest := []) ⟨hx, hb, hml, hown, hts⟩ hI hH (c_X12_goesDay l E M33 u _ _ hg37) (cwV 0 hts gX12_lots_X12_goesDay rfl rfl rfl (by decide +kernel) ⟨Nat.le_of_ble_eq_true rfl, Nat.le_of_ble_eq_true rfl⟩) mt_T147 rfl rfl hl.1 rfl (Nat.le_of_ble_eq_true rfl) dX12_lots_146 ⟨Nat.zero_le _, Nat.zero_le _⟩) hS (fun H locs hH hS => ?_)
            refine lv_pop hx hb dX12_lots_149 rfl ?_
            refine mt_ltI hf (fun x40 ex40 hf => ?_)
            refine lv_iinc (v := x40) (lv' := [(9, .int x40), (0, .ref (E.2.1 147)), (1, .int a1), (3, .int a3), (5, .int x31), (6, .int x18), (7, .int x19), (8, .int x10), (10, .int x32)]) hx hb dX12_lots_150 hl (k := 7) rfl (by rw [ex40]; rfl) (by decide) rfl (fun ls hl => ?_)
            refine lv_goto (tgt := 86) hx hb dX12_lots_153 (by decide) ?_
            exact ih24 x31 x40 M39 hf _ _ _ hH hS (lv_sub hl [1, 2, 3, 4, 5, 6, 7, 0] rfl)
          · have hf := mt_ifF c36 hf
            refine lv_iload hx hb dX12_lots_105 (lv_at hl 3 rfl) ?_
            refine lv_ldcw hx hb hown kw2 dX12_lots_107 ?_
            refine lv_imul hx hb dX12_lots_110 ?_
            refine lv_sipush (v := 12345) hx hb dX12_lots_111 (by decide) ?_
            refine lv_iadd hx hb dX12_lots_114 ?_
            refine mt_lti hf (fun x41 ex41 hf => ?_)
            refine lv_istore (lv' := [(5, .int x41), (0, .ref (E.2.1 147)), (1, .int a1), (3, .int a3), (6, .int x18), (7, .int x19), (8, .int x10), (9, .int x21), (10, .int x32)]) hx hb dX12_lots_115 hl (by decide) rfl (fun ls hl => ?_)
            refine lv_iload hx hb dX12_lots_117 (lv_at hl 0 rfl) ?_
            refine lv_ldcw hx hb hown kw3 dX12_lots_119 ?_
            refine lv_iand hx hb dX12_lots_122 ?_
            refine lv_ldcw hx hb hown kw4 dX12_lots_123 ?_
            refine lv_idiv hx hb dX12_lots_126 (by decide) ?_
            refine lv_iconst (v := 2) hx hb dX12_lots_127 (by decide) ?_
            refine lv_irem hx hb dX12_lots_128 (by decide) ?_
            refine lv_iconst (v := 1) hx hb dX12_lots_129 (by decide) ?_
            refine mt_jn1 hf (fun (M42 : mt_M) => ∀ (H : Heap) (locs : List Loc) (ls : Array Slot), mt_H E M42 u H → va_S (mt_A E) s.heap H locs → lv_has ls 11 [(0, .ref (E.2.1 147)), (1, .int a1), (3, .int a3), (5, .int x41), (6, .int x18), (7, .int x19), (8, .int x10), (9, .int x21), (10, .int x32)] → W p l e (headSpec wsX12_lots ({ frames := 3, cells := 0, slots := 0, locals := 67 } : Room)).room s mid (([.ref (E.2.1 147), .int a1, .int a2, .int a3] : List Value).toArray) below meth c0 H locs 0 0 (MQ below (mt_Qi E r M' u) (([.ref (E.2.1 147), .int a1, .int a2, .int a3] : List Value).toArray) s 0 0 (mt_A E)) (F0 mid 139 ls [])) ?_ ?_
            · intro M42 hf H locs ls hH hS hl
              refine mt_ltI hf (fun x45 ex45 hf => ?_)
              refine lv_iinc (v := x45) (lv' := [(10, .int x45), (0, .ref (E.2.1 147)), (1, .int a1), (3, .int a3), (5, .int x41), (6, .int x18), (7, .int x19), (8, .int x10), (9, .int x21)]) hx hb dX12_lots_139 hl (k := 8) rfl (by rw [ex45]; rfl) (by decide) rfl (fun ls hl => ?_)
              refine lv_goto (tgt := 96) hx hb dX12_lots_142 (by decide) ?_
              exact ih35 x41 x45 M42 hf _ _ _ hH hS (lv_sub hl [1, 2, 3, 4, 5, 6, 7, 8, 0] rfl)
            · intro j43 hj44 hf
              refine lv_icmp_ne (tgt := 139) hx hb dX12_lots_130 (by decide) (fun c46 => ?_) (fun c46 => ?_)
              · have hf := mt_ifF c46 hf
                exact hj44 M33 hf _ _ _ hH hS (lv_sub hl [1, 2, 3, 0, 4, 5, 6, 7, 8] rfl)
              · have hf := mt_ifT c46 hf
                refine lv_aload_n hx hb dX12_lots_133 rfl (lv_at hl 1 rfl) ?_
                refine lv_iload hx hb dX12_lots_134 (lv_at hl 8 rfl) ?_
                refine mt_b1I hf (fun M48 hg47 hf => ?_)
                refine mt_gov (mt_runV (i := 147) (As := [.int x32]) (rest := []) ⟨hx, hb, hml, hown, hts⟩ hI hH (c_X12_gets l E x32 M33 u _ hg47) (cwV 1 hts gX12_lots_X12_gets rfl rfl rfl (by decide +kernel) ⟨Nat.le_of_ble_eq_true rfl, Nat.le_of_ble_eq_true rfl⟩) mt_T147 rfl rfl hl.1 rfl (Nat.le_of_ble_eq_true rfl) dX12_lots_136 ⟨Nat.zero_le _, Nat.zero_le _⟩) hS (fun H locs hH hS => ?_)
                exact hj44 M48 hf _ _ _ hH hS (lv_sub hl [1, 2, 3, 0, 4, 5, 6, 7, 8] rfl)
    · have hf := mt_ifF c6 hf
      refine lv_aload_n hx hb dX12_lots_32 rfl (lv_at hl 0 rfl) ?_
      refine lv_iload hx hb dX12_lots_33 (lv_at hl 4 rfl) ?_
      refine mt_b2I hf (fun r50 M51 hg49 hf => ?_)
      refine mt_goi (mt_runV (i := 147) (As := [.int x3]) (rest := []) ⟨hx, hb, hml, hown, hts⟩ hI hH (c_X12_no l E x3 M u _ _ hg49) (cwV 1 hts gX12_lots_X12_no rfl rfl rfl (by decide +kernel) ⟨Nat.le_of_ble_eq_true rfl, Nat.le_of_ble_eq_true rfl⟩) mt_T147 rfl rfl hl.1 rfl (Nat.le_of_ble_eq_true rfl) dX12_lots_35 ⟨Nat.zero_le _, Nat.zero_le _⟩) hS (fun H locs hH hS => ?_)
      obtain ⟨i1, i2⟩ := mt_so2 hf
      subst i1
      subst i2
      exact mt_iret hx hb hr hI hH hS hlocks dX12_lots_38
  · intro j4 hj5 hf
    refine lv_if_ne (tgt := 27) hx hb dX12_lots_11 (by decide) (fun c52 => ?_) (fun c52 => ?_)
    · have hf := mt_ifF c52 hf
      exact hj5 r2 hf _ _ _ hH hS (lv_sub hl [1, 2, 3, 4, 0] rfl)
    · have hf := mt_ifT c52 hf
      refine lv_iload_n hx hb dX12_lots_14 rfl (lv_at hl 4 rfl) ?_
      refine lv_iconst (v := 0) hx hb dX12_lots_15 (by decide) ?_
      refine lv_iconst (v := 1) hx hb dX12_lots_16 (by decide) ?_
      refine mt_b1I hf (fun r54 hg53 hf => ?_)
      refine mt_goi (mt_runS (As := [.int a3, .int (0 : Int32), .int (1 : Int32)]) (rest := []) ⟨hx, hb, hml, hown, hts⟩ hI hH (c_X12_isIn l E a3 (0 : Int32) (1 : Int32) M u _ hg53) (va_cwS 3 hts gX12_lots_X12_isIn rfl rfl rfl (by decide +kernel) ⟨Nat.le_of_ble_eq_true rfl, Nat.le_of_ble_eq_true rfl⟩) rfl hl.1 rfl (Nat.le_of_ble_eq_true rfl) dX12_lots_17 ⟨Nat.zero_le _, Nat.zero_le _⟩) hS (fun H locs hH hS => ?_)
      refine lv_if_ne (tgt := 27) hx hb dX12_lots_20 (by decide) (fun c55 => ?_) (fun c55 => ?_)
      · have hf := mt_ifF c55 hf
        exact hj5 r2 hf _ _ _ hH hS (lv_sub hl [1, 2, 3, 4, 0] rfl)
      · have hf := mt_ifT c55 hf
        refine lv_bipush (v := (-2)) hx hb dX12_lots_23 (by decide) ?_
        refine lv_istore (lv' := [(4, .int (-2 : Int32)), (0, .ref (E.2.1 147)), (1, .int a1), (2, .int a2), (3, .int a3)]) hx hb dX12_lots_25 hl (by decide) rfl (fun ls hl => ?_)
        exact hj5 (-2 : Int32) hf _ _ _ hH hS (lv_sub hl [1, 2, 3, 4, 0] rfl)
set_option maxHeartbeats 4000000 in
set_option maxRecDepth 100000 in
theorem c_X12_count (l : Launch) (E : mt_E) (a1 : Int32) (M : mt_M) (u : mt_U) (r : Int32) (hf : f_X12_count a1 M = some (r)) : Met l yX12_count wsX12_count ({ frames := 1, cells := 0, slots := 0, locals := 23 } : Room) (mt_P E [.ref (E.2.1 147), .int a1] M u) (mt_Qi E r M u) 0 0 (mt_A E) := by
  refine Met.ofW (cc := cX12_count) (maxL := 4) (ret := (some .int)) (by decide) rfl ?_
  intro p e s mid args below meth c0 s₁ B hml hv
  obtain ⟨rfl, hI, hH⟩ := hv
  have hx := B.exec
  have hb := B.bytes
  have hr := B.returns
  have hts := atoms_spec (ws := wsX12_count) B.pre
  have hown : s.vm.findClass RX12 = some mid.cls := findClass_of_methodNamed B.named
  have hlocks := B.notSynchronized
  have hS : va_S (mt_A E) s.heap s.heap [] := va_S.rf
  have hl := lv_entry ([.ref (E.2.1 147), .int a1]) (n := 4) (Nat.le_of_ble_eq_true rfl)
  rw [lg_entry_eq]
  generalize (lg_sl ([.ref (E.2.1 147), .int a1]) ++ List.replicate (4 - (lg_sl ([.ref (E.2.1 147), .int a1])).length) Slot.unset).toArray = ls at hl ⊢
  have hl : lv_has ls 4 [(0, .ref (E.2.1 147)), (1, .int a1)] := hl
  unfold f_X12_count at hf
  have kw0 := hts (.fieldLink RX12 59 "MilkTwiceModel" "things" "I") (List.mem_of_getElem? (i := 2) rfl)
  have kw1 := hts (.fieldLink RX12 110 "MilkTwiceModel" "now" "I") (List.mem_of_getElem? (i := 3) rfl)
  have kw2 := hts (.fieldLink RX12 121 "MilkTwiceModel" "days" "I") (List.mem_of_getElem? (i := 4) rfl)
  have kw3 := hts (.fieldLink RX12 133 "MilkTwiceModel" "rule" "I") (List.mem_of_getElem? (i := 5) rfl)
  have kw4 := hts (.fieldLink RX12 31 "MilkTwiceModel" "sums" "[I") (List.mem_of_getElem? (i := 6) rfl)
  have kw5 := hts (.fieldLink RX12 22 "MilkTwiceModel" "stocked" "[I") (List.mem_of_getElem? (i := 7) rfl)
  have kw6 := hts (.fieldLink RX12 76 "MilkTwiceModel" "taped" "I") (List.mem_of_getElem? (i := 8) rfl)
  have kw7 := hts (.fieldLink RX12 285 "MilkTwiceModel" "rowMany" "I") (List.mem_of_getElem? (i := 9) rfl)
  have kw8 := hts (.fieldLink RX12 153 "MilkTwiceModel" "backs" "I") (List.mem_of_getElem? (i := 10) rfl)
  have kw9 := hts (.fieldLink RX12 7 "MilkTwiceModel" "refused" "[I") (List.mem_of_getElem? (i := 1) rfl)
  have hinX12 : ∀ w ∈ u_ws RX12 TX12 29, w ∈ wsX12_count := fun w h => List.mem_cons_of_mem _ (List.mem_append_right _ h)
  refine lv_iload_n hx hb dX12_count_0 rfl (lv_at hl 1 rfl) ?_
  refine lv_bipush (v := 11) hx hb dX12_count_1 (by decide) ?_
  refine lv_bipush (v := 16) hx hb dX12_count_3 (by decide) ?_
  refine mt_b1I hf (fun r2 hg1 hf => ?_)
  refine mt_goi (mt_runS (As := [.int a1, .int (11 : Int32), .int (16 : Int32)]) (rest := []) ⟨hx, hb, hml, hown, hts⟩ hI hH (c_X12_isIn l E a1 (11 : Int32) (16 : Int32) M u _ hg1) (va_cwS 3 hts gX12_count_X12_isIn rfl rfl rfl (by decide +kernel) ⟨Nat.le_of_ble_eq_true rfl, Nat.le_of_ble_eq_true rfl⟩) rfl hl.1 rfl (Nat.le_of_ble_eq_true rfl) dX12_count_5 ⟨Nat.zero_le _, Nat.zero_le _⟩) hS (fun H locs hH hS => ?_)
  refine lv_if_eq (tgt := 21) hx hb dX12_count_8 (by decide) (fun c3 => ?_) (fun c3 => ?_)
  · have hf := mt_ifT c3 hf
    refine lv_iconst (v := 0) hx hb dX12_count_21 (by decide) ?_
    refine lv_istore_n (lv' := [(2, .int (0 : Int32)), (0, .ref (E.2.1 147)), (1, .int a1)]) hx hb dX12_count_22 rfl hl (by decide) rfl (fun ls hl => ?_)
    refine lv_iload_n hx hb dX12_count_23 rfl (lv_at hl 2 rfl) ?_
    by_cases c4 : a1 = (0 : Int32)
    · have hf := mt_ifT c4 hf
      refine lv_tableIn (off := 88) (tgt := 112) hx hb dX12_count_24 (by rw [c4]; decide) (by rw [c4]; decide) (by rw [c4]; rfl) (by decide) ?_
      refine lv_aload_n hx hb dX12_count_112 rfl (lv_at hl 1 rfl) ?_
      refine mt_geti (C := RX12) (T := TX12) (N := 29) hx hb hts hinX12 hown hI hH mt_T147 rfl 8 (by decide) kw0 rfl rfl dX12_count_113 ?_
      have i1 := mt_so1 hf
      subst i1
      exact mt_iret hx hb hr hI hH hS hlocks dX12_count_116
    · have hf := mt_ifF c4 hf
      by_cases c5 : a1 = (1 : Int32)
      · have hf := mt_ifT c5 hf
        refine lv_tableIn (off := 93) (tgt := 117) hx hb dX12_count_24 (by rw [c5]; decide) (by rw [c5]; decide) (by rw [c5]; rfl) (by decide) ?_
        refine lv_aload_n hx hb dX12_count_117 rfl (lv_at hl 1 rfl) ?_
        refine mt_geti (C := RX12) (T := TX12) (N := 29) hx hb hts hinX12 hown hI hH mt_T147 rfl 9 (by decide) kw1 rfl rfl dX12_count_118 ?_
        have i1 := mt_so1 hf
        subst i1
        exact mt_iret hx hb hr hI hH hS hlocks dX12_count_121
      · have hf := mt_ifF c5 hf
        by_cases c6 : a1 = (2 : Int32)
        · have hf := mt_ifT c6 hf
          refine lv_tableIn (off := 98) (tgt := 122) hx hb dX12_count_24 (by rw [c6]; decide) (by rw [c6]; decide) (by rw [c6]; rfl) (by decide) ?_
          refine lv_aload_n hx hb dX12_count_122 rfl (lv_at hl 1 rfl) ?_
          refine mt_geti (C := RX12) (T := TX12) (N := 29) hx hb hts hinX12 hown hI hH mt_T147 rfl 10 (by decide) kw2 rfl rfl dX12_count_123 ?_
          have i1 := mt_so1 hf
          subst i1
          exact mt_iret hx hb hr hI hH hS hlocks dX12_count_126
        · have hf := mt_ifF c6 hf
          by_cases c7 : a1 = (3 : Int32)
          · have hf := mt_ifT c7 hf
            refine lv_tableIn (off := 103) (tgt := 127) hx hb dX12_count_24 (by rw [c7]; decide) (by rw [c7]; decide) (by rw [c7]; rfl) (by decide) ?_
            refine lv_aload_n hx hb dX12_count_127 rfl (lv_at hl 1 rfl) ?_
            refine mt_geti (C := RX12) (T := TX12) (N := 29) hx hb hts hinX12 hown hI hH mt_T147 rfl 11 (by decide) kw3 rfl rfl dX12_count_128 ?_
            have i1 := mt_so1 hf
            subst i1
            exact mt_iret hx hb hr hI hH hS hlocks dX12_count_131
          · have hf := mt_ifF c7 hf
            by_cases c8 : a1 = (4 : Int32)
            · have hf := mt_ifT c8 hf
              refine lv_tableIn (off := 108) (tgt := 132) hx hb dX12_count_24 (by rw [c8]; decide) (by rw [c8]; decide) (by rw [c8]; rfl) (by decide) ?_
              refine lv_aload_n hx hb dX12_count_132 rfl (lv_at hl 1 rfl) ?_
              refine mt_getr (C := RX12) (T := TX12) (N := 29) hx hb hts hinX12 hown hI hH mt_T147 rfl 7 (by decide) kw4 rfl rfl dX12_count_133 ?_
              refine lv_iload_n hx hb dX12_count_136 rfl (lv_at hl 2 rfl) ?_
              refine lv_iconst (v := 4) hx hb dX12_count_137 (by decide) ?_
              refine lv_isub hx hb dX12_count_138 ?_
              refine mt_ciI hf (fun q9 hf => ?_)
              refine mt_iald hx hb hI hH mt_T155 q9 dX12_count_139 ?_
              have i1 := mt_so1 hf
              subst i1
              exact mt_iret hx hb hr hI hH hS hlocks dX12_count_140
            · have hf := mt_ifF c8 hf
              by_cases c10 : a1 = (5 : Int32)
              · have hf := mt_ifT c10 hf
                refine lv_tableIn (off := 108) (tgt := 132) hx hb dX12_count_24 (by rw [c10]; decide) (by rw [c10]; decide) (by rw [c10]; rfl) (by decide) ?_
                refine lv_aload_n hx hb dX12_count_132 rfl (lv_at hl 1 rfl) ?_
                refine mt_getr (C := RX12) (T := TX12) (N := 29) hx hb hts hinX12 hown hI hH mt_T147 rfl 7 (by decide) kw4 rfl rfl dX12_count_133 ?_
                refine lv_iload_n hx hb dX12_count_136 rfl (lv_at hl 2 rfl) ?_
                refine lv_iconst (v := 4) hx hb dX12_count_137 (by decide) ?_
                refine lv_isub hx hb dX12_count_138 ?_
                refine mt_ciI hf (fun q11 hf => ?_)
                refine mt_iald hx hb hI hH mt_T155 q11 dX12_count_139 ?_
                have i1 := mt_so1 hf
                subst i1
                exact mt_iret hx hb hr hI hH hS hlocks dX12_count_140
              · have hf := mt_ifF c10 hf
                by_cases c12 : a1 = (6 : Int32)
                · have hf := mt_ifT c12 hf
                  refine lv_tableIn (off := 108) (tgt := 132) hx hb dX12_count_24 (by rw [c12]; decide) (by rw [c12]; decide) (by rw [c12]; rfl) (by decide) ?_
                  refine lv_aload_n hx hb dX12_count_132 rfl (lv_at hl 1 rfl) ?_
                  refine mt_getr (C := RX12) (T := TX12) (N := 29) hx hb hts hinX12 hown hI hH mt_T147 rfl 7 (by decide) kw4 rfl rfl dX12_count_133 ?_
                  refine lv_iload_n hx hb dX12_count_136 rfl (lv_at hl 2 rfl) ?_
                  refine lv_iconst (v := 4) hx hb dX12_count_137 (by decide) ?_
                  refine lv_isub hx hb dX12_count_138 ?_
                  refine mt_ciI hf (fun q13 hf => ?_)
                  refine mt_iald hx hb hI hH mt_T155 q13 dX12_count_139 ?_
                  have i1 := mt_so1 hf
                  subst i1
                  exact mt_iret hx hb hr hI hH hS hlocks dX12_count_140
                · have hf := mt_ifF c12 hf
                  by_cases c14 : a1 = (7 : Int32)
                  · have hf := mt_ifT c14 hf
                    refine lv_tableIn (off := 117) (tgt := 141) hx hb dX12_count_24 (by rw [c14]; decide) (by rw [c14]; decide) (by rw [c14]; rfl) (by decide) ?_
                    refine lv_iconst (v := 0) hx hb dX12_count_141 (by decide) ?_
                    refine lv_istore_n (lv' := [(3, .int (0 : Int32)), (2, .int (0 : Int32)), (0, .ref (E.2.1 147)), (1, .int a1)]) hx hb dX12_count_142 rfl hl (by decide) rfl (fun ls hl => ?_)
                    refine mt_lpI2 hf (fun (x15 : Int32) (x16 : Int32) => ∀ (H : Heap) (locs : List Loc) (ls : Array Slot), mt_H E M u H → va_S (mt_A E) s.heap H locs → lv_has ls 4 [(0, .ref (E.2.1 147)), (2, .int x15), (3, .int x16)] → W p l e (headSpec wsX12_count ({ frames := 1, cells := 0, slots := 0, locals := 23 } : Room)).room s mid (([.ref (E.2.1 147), .int a1] : List Value).toArray) below meth c0 H locs 0 0 (MQ below (mt_Qi E r M u) (([.ref (E.2.1 147), .int a1] : List Value).toArray) s 0 0 (mt_A E)) (F0 mid 143 ls [])) ?_ _ _ _ hH hS (lv_sub hl [2, 1, 0] rfl)
                    intro k17 ih18 x15 x16 hf H locs ls hH hS hl
                    refine lv_iload_n hx hb dX12_count_143 rfl (lv_at hl 2 rfl) ?_
                    refine lv_aload_n hx hb dX12_count_144 rfl (lv_at hl 0 rfl) ?_
                    refine mt_geti (C := RX12) (T := TX12) (N := 29) hx hb hts hinX12 hown hI hH mt_T147 rfl 8 (by decide) kw0 rfl rfl dX12_count_145 ?_
                    refine lv_icmp_ge (tgt := 166) hx hb dX12_count_148 (by decide) (fun c19 => ?_) (fun c19 => ?_)
                    · have hf := mt_ifT c19 hf
                      refine lv_iload_n hx hb dX12_count_166 rfl (lv_at hl 1 rfl) ?_
                      have i1 := mt_so1 hf
                      subst i1
                      exact mt_iret hx hb hr hI hH hS hlocks dX12_count_167
                    · have hf := mt_ifF c19 hf
                      refine lv_iload_n hx hb dX12_count_151 rfl (lv_at hl 1 rfl) ?_
                      refine lv_aload_n hx hb dX12_count_152 rfl (lv_at hl 0 rfl) ?_
                      refine mt_getr (C := RX12) (T := TX12) (N := 29) hx hb hts hinX12 hown hI hH mt_T147 rfl 4 (by decide) kw5 rfl rfl dX12_count_153 ?_
                      refine lv_iload_n hx hb dX12_count_156 rfl (lv_at hl 2 rfl) ?_
                      refine mt_ciI hf (fun q20 hf => ?_)
                      refine mt_iald hx hb hI hH mt_T152 q20 dX12_count_157 ?_
                      refine lv_iadd hx hb dX12_count_158 ?_
                      refine mt_lti hf (fun x21 ex21 hf => ?_)
                      refine lv_istore_n (lv' := [(2, .int x21), (0, .ref (E.2.1 147)), (3, .int x16)]) hx hb dX12_count_159 rfl hl (by decide) rfl (fun ls hl => ?_)
                      refine mt_ltI hf (fun x22 ex22 hf => ?_)
                      refine lv_iinc (v := x22) (lv' := [(3, .int x22), (2, .int x21), (0, .ref (E.2.1 147))]) hx hb dX12_count_160 hl (k := 2) rfl (by rw [ex22]; rfl) (by decide) rfl (fun ls hl => ?_)
                      refine lv_goto (tgt := 143) hx hb dX12_count_163 (by decide) ?_
                      exact ih18 x21 x22 hf _ _ _ hH hS (lv_sub hl [2, 1, 0] rfl)
                  · have hf := mt_ifF c14 hf
                    by_cases c23 : a1 = (8 : Int32)
                    · have hf := mt_ifT c23 hf
                      refine lv_tableIn (off := 144) (tgt := 168) hx hb dX12_count_24 (by rw [c23]; decide) (by rw [c23]; decide) (by rw [c23]; rfl) (by decide) ?_
                      refine lv_aload_n hx hb dX12_count_168 rfl (lv_at hl 1 rfl) ?_
                      refine lv_iconst (v := 0) hx hb dX12_count_169 (by decide) ?_
                      refine mt_b1I hf (fun r25 hg24 hf => ?_)
                      refine mt_goi (mt_runV (i := 147) (As := [.int (0 : Int32)]) (rest := []) ⟨hx, hb, hml, hown, hts⟩ hI hH (c_X12_wants l E (0 : Int32) M u _ hg24) (cwV 1 hts gX12_count_X12_wants rfl rfl rfl (by decide +kernel) ⟨Nat.le_of_ble_eq_true rfl, Nat.le_of_ble_eq_true rfl⟩) mt_T147 rfl rfl hl.1 rfl (Nat.le_of_ble_eq_true rfl) dX12_count_170 ⟨Nat.zero_le _, Nat.zero_le _⟩) hS (fun H locs hH hS => ?_)
                      refine mt_b1I hf (fun r27 hg26 hf => ?_)
                      refine mt_goi (mt_runS (As := [.int r25]) (rest := []) ⟨hx, hb, hml, hown, hts⟩ hI hH (c_X12_bits l E r25 M u _ hg26) (va_cwS 1 hts gX12_count_X12_bits rfl rfl rfl (by decide +kernel) ⟨Nat.le_of_ble_eq_true rfl, Nat.le_of_ble_eq_true rfl⟩) rfl hl.1 rfl (Nat.le_of_ble_eq_true rfl) dX12_count_173 ⟨Nat.zero_le _, Nat.zero_le _⟩) hS (fun H locs hH hS => ?_)
                      refine lv_aload_n hx hb dX12_count_176 rfl (lv_at hl 1 rfl) ?_
                      refine lv_iconst (v := 1) hx hb dX12_count_177 (by decide) ?_
                      refine mt_b1I hf (fun r29 hg28 hf => ?_)
                      refine mt_goi (mt_runV (i := 147) (As := [.int (1 : Int32)]) (rest := [.int r27]) ⟨hx, hb, hml, hown, hts⟩ hI hH (c_X12_wants l E (1 : Int32) M u _ hg28) (cwV 1 hts gX12_count_X12_wants rfl rfl rfl (by decide +kernel) ⟨Nat.le_of_ble_eq_true rfl, Nat.le_of_ble_eq_true rfl⟩) mt_T147 rfl rfl hl.1 rfl (Nat.le_of_ble_eq_true rfl) dX12_count_178 ⟨Nat.zero_le _, Nat.zero_le _⟩) hS (fun H locs hH hS => ?_)
                      refine mt_b1I hf (fun r31 hg30 hf => ?_)
                      refine mt_goi (mt_runS (As := [.int r29]) (rest := [.int r27]) ⟨hx, hb, hml, hown, hts⟩ hI hH (c_X12_bits l E r29 M u _ hg30) (va_cwS 1 hts gX12_count_X12_bits rfl rfl rfl (by decide +kernel) ⟨Nat.le_of_ble_eq_true rfl, Nat.le_of_ble_eq_true rfl⟩) rfl hl.1 rfl (Nat.le_of_ble_eq_true rfl) dX12_count_181 ⟨Nat.zero_le _, Nat.zero_le _⟩) hS (fun H locs hH hS => ?_)
                      refine lv_iadd hx hb dX12_count_184 ?_
                      have i1 := mt_so1 hf
                      subst i1
                      exact mt_iret hx hb hr hI hH hS hlocks dX12_count_185
                    · have hf := mt_ifF c23 hf
                      by_cases c32 : a1 = (9 : Int32)
                      · have hf := mt_ifT c32 hf
                        refine lv_tableIn (off := 162) (tgt := 186) hx hb dX12_count_24 (by rw [c32]; decide) (by rw [c32]; decide) (by rw [c32]; rfl) (by decide) ?_
                        refine lv_aload_n hx hb dX12_count_186 rfl (lv_at hl 1 rfl) ?_
                        refine mt_geti (C := RX12) (T := TX12) (N := 29) hx hb hts hinX12 hown hI hH mt_T147 rfl 16 (by decide) kw6 rfl rfl dX12_count_187 ?_
                        have i1 := mt_so1 hf
                        subst i1
                        exact mt_iret hx hb hr hI hH hS hlocks dX12_count_190
                      · have hf := mt_ifF c32 hf
                        by_cases c33 : a1 = (10 : Int32)
                        · have hf := mt_ifT c33 hf
                          refine lv_tableIn (off := 167) (tgt := 191) hx hb dX12_count_24 (by rw [c33]; decide) (by rw [c33]; decide) (by rw [c33]; rfl) (by decide) ?_
                          refine lv_aload_n hx hb dX12_count_191 rfl (lv_at hl 1 rfl) ?_
                          refine mt_geti (C := RX12) (T := TX12) (N := 29) hx hb hts hinX12 hown hI hH mt_T147 rfl 27 (by decide) kw7 rfl rfl dX12_count_192 ?_
                          have i1 := mt_so1 hf
                          subst i1
                          exact mt_iret hx hb hr hI hH hS hlocks dX12_count_195
                        · have hf := mt_ifF c33 hf
                          by_cases c34 : a1 = (11 : Int32)
                          · have hf := mt_ifT c34 hf
                            refine lv_tableIn (off := 177) (tgt := 201) hx hb dX12_count_24 (by rw [c34]; decide) (by rw [c34]; decide) (by rw [c34]; rfl) (by decide) ?_
                            refine lv_bipush (v := (-9)) hx hb dX12_count_201 (by decide) ?_
                            have i1 := mt_so1 hf
                            subst i1
                            exact mt_iret hx hb hr hI hH hS hlocks dX12_count_203
                          · have hf := mt_ifF c34 hf
                            by_cases c35 : a1 = (12 : Int32)
                            · have hf := mt_ifT c35 hf
                              refine lv_tableIn (off := 177) (tgt := 201) hx hb dX12_count_24 (by rw [c35]; decide) (by rw [c35]; decide) (by rw [c35]; rfl) (by decide) ?_
                              refine lv_bipush (v := (-9)) hx hb dX12_count_201 (by decide) ?_
                              have i1 := mt_so1 hf
                              subst i1
                              exact mt_iret hx hb hr hI hH hS hlocks dX12_count_203
                            · have hf := mt_ifF c35 hf
                              by_cases c36 : a1 = (13 : Int32)
                              · have hf := mt_ifT c36 hf
                                refine lv_tableIn (off := 177) (tgt := 201) hx hb dX12_count_24 (by rw [c36]; decide) (by rw [c36]; decide) (by rw [c36]; rfl) (by decide) ?_
                                refine lv_bipush (v := (-9)) hx hb dX12_count_201 (by decide) ?_
                                have i1 := mt_so1 hf
                                subst i1
                                exact mt_iret hx hb hr hI hH hS hlocks dX12_count_203
                              · have hf := mt_ifF c36 hf
                                by_cases c37 : a1 = (14 : Int32)
                                · have hf := mt_ifT c37 hf
                                  refine lv_tableIn (off := 177) (tgt := 201) hx hb dX12_count_24 (by rw [c37]; decide) (by rw [c37]; decide) (by rw [c37]; rfl) (by decide) ?_
                                  refine lv_bipush (v := (-9)) hx hb dX12_count_201 (by decide) ?_
                                  have i1 := mt_so1 hf
                                  subst i1
                                  exact mt_iret hx hb hr hI hH hS hlocks dX12_count_203
                                · have hf := mt_ifF c37 hf
                                  by_cases c38 : a1 = (15 : Int32)
                                  · have hf := mt_ifT c38 hf
                                    refine lv_tableIn (off := 177) (tgt := 201) hx hb dX12_count_24 (by rw [c38]; decide) (by rw [c38]; decide) (by rw [c38]; rfl) (by decide) ?_
                                    refine lv_bipush (v := (-9)) hx hb dX12_count_201 (by decide) ?_
                                    have i1 := mt_so1 hf
                                    subst i1
                                    exact mt_iret hx hb hr hI hH hS hlocks dX12_count_203
                                  · have hf := mt_ifF c38 hf
                                    by_cases c39 : a1 = (16 : Int32)
                                    · have hf := mt_ifT c39 hf
                                      refine lv_tableIn (off := 177) (tgt := 201) hx hb dX12_count_24 (by rw [c39]; decide) (by rw [c39]; decide) (by rw [c39]; rfl) (by decide) ?_
                                      refine lv_bipush (v := (-9)) hx hb dX12_count_201 (by decide) ?_
                                      have i1 := mt_so1 hf
                                      subst i1
                                      exact mt_iret hx hb hr hI hH hS hlocks dX12_count_203
                                    · have hf := mt_ifF c39 hf
                                      by_cases c40 : a1 = (17 : Int32)
                                      · have hf := mt_ifT c40 hf
                                        refine lv_tableIn (off := 172) (tgt := 196) hx hb dX12_count_24 (by rw [c40]; decide) (by rw [c40]; decide) (by rw [c40]; rfl) (by decide) ?_
                                        refine lv_aload_n hx hb dX12_count_196 rfl (lv_at hl 1 rfl) ?_
                                        refine mt_geti (C := RX12) (T := TX12) (N := 29) hx hb hts hinX12 hown hI hH mt_T147 rfl 23 (by decide) kw8 rfl rfl dX12_count_197 ?_
                                        have i1 := mt_so1 hf
                                        subst i1
                                        exact mt_iret hx hb hr hI hH hS hlocks dX12_count_200
                                      · have hf := mt_ifF c40 hf
                                        refine lv_tableOut (tgt := 201) hx hb dX12_count_24 (mt_tabOut (0) (17) (by decide) (by decide) (fun n hn => ?_)) (by decide) ?_
                                        · rcases (show n = 0 ∨ n = 1 ∨ n = 2 ∨ n = 3 ∨ n = 4 ∨ n = 5 ∨ n = 6 ∨ n = 7 ∨ n = 8 ∨ n = 9 ∨ n = 10 ∨ n = 11 ∨ n = 12 ∨ n = 13 ∨ n = 14 ∨ n = 15 ∨ n = 16 ∨ n = 17 from by omega) with rfl | rfl | rfl | rfl | rfl | rfl | rfl | rfl | rfl | rfl | rfl | rfl | rfl | rfl | rfl | rfl | rfl | rfl
                                          · exact fun e9 => c4 (e9.trans (by decide))
                                          · exact fun e9 => c5 (e9.trans (by decide))
                                          · exact fun e9 => c6 (e9.trans (by decide))
                                          · exact fun e9 => c7 (e9.trans (by decide))
                                          · exact fun e9 => c8 (e9.trans (by decide))
                                          · exact fun e9 => c10 (e9.trans (by decide))
                                          · exact fun e9 => c12 (e9.trans (by decide))
                                          · exact fun e9 => c14 (e9.trans (by decide))
                                          · exact fun e9 => c23 (e9.trans (by decide))
                                          · exact fun e9 => c32 (e9.trans (by decide))
                                          · exact fun e9 => c33 (e9.trans (by decide))
                                          · exact fun e9 => c34 (e9.trans (by decide))
                                          · exact fun e9 => c35 (e9.trans (by decide))
                                          · exact fun e9 => c36 (e9.trans (by decide))
                                          · exact fun e9 => c37 (e9.trans (by decide))
                                          · exact fun e9 => c38 (e9.trans (by decide))
                                          · exact fun e9 => c39 (e9.trans (by decide))
                                          · exact fun e9 => c40 (e9.trans (by decide))
                                        · refine lv_bipush (v := (-9)) hx hb dX12_count_201 (by decide) ?_
                                          have i1 := mt_so1 hf
                                          subst i1
                                          exact mt_iret hx hb hr hI hH hS hlocks dX12_count_203
  · have hf := mt_ifF c3 hf
    refine lv_aload_n hx hb dX12_count_11 rfl (lv_at hl 0 rfl) ?_
    refine mt_getr (C := RX12) (T := TX12) (N := 29) hx hb hts hinX12 hown hI hH mt_T147 rfl 0 (by decide) kw9 rfl rfl dX12_count_12 ?_
    refine lv_iload_n hx hb dX12_count_15 rfl (lv_at hl 1 rfl) ?_
    refine lv_bipush (v := 10) hx hb dX12_count_16 (by decide) ?_
    refine lv_isub hx hb dX12_count_18 ?_
    refine mt_ciI hf (fun q41 hf => ?_)
    refine mt_iald hx hb hI hH mt_T148 q41 dX12_count_19 ?_
    have i1 := mt_so1 hf
    subst i1
    exact mt_iret hx hb hr hI hH hS hlocks dX12_count_20

/-! THE WALKS, laid by program: each method returns what its pure function says, and leaves the memory so -/
set_option maxHeartbeats 4000000 in
set_option maxRecDepth 100000 in
theorem c_X12_usesOf (l : Launch) (E : mt_E) (a1 : Int32) (M : mt_M) (u : mt_U) (r : Int32) (M' : mt_M) (hf : f_X12_usesOf a1 M = some (r, M')) : Met l yX12_usesOf wsX12_usesOf ({ frames := 1, cells := 0, slots := 0, locals := 22 } : Room) (mt_P E [.ref (E.2.1 147), .int a1] M u) (mt_Qi E r M' u) 0 0 (mt_A E) := by
  refine Met.ofW (cc := cX12_usesOf) (maxL := 4) (ret := (some .int)) (by decide) rfl ?_
  intro p e s mid args below meth c0 s₁ B hml hv
  obtain ⟨rfl, hI, hH⟩ := hv
  have hx := B.exec
  have hb := B.bytes
  have hr := B.returns
  have hts := atoms_spec (ws := wsX12_usesOf) B.pre
  have hown : s.vm.findClass RX12 = some mid.cls := findClass_of_methodNamed B.named
  have hlocks := B.notSynchronized
  have hS : va_S (mt_A E) s.heap s.heap [] := va_S.rf
  have hl := lv_entry ([.ref (E.2.1 147), .int a1]) (n := 4) (Nat.le_of_ble_eq_true rfl)
  rw [lg_entry_eq]
  generalize (lg_sl ([.ref (E.2.1 147), .int a1]) ++ List.replicate (4 - (lg_sl ([.ref (E.2.1 147), .int a1])).length) Slot.unset).toArray = ls at hl ⊢
  have hl : lv_has ls 4 [(0, .ref (E.2.1 147)), (1, .int a1)] := hl
  unfold f_X12_usesOf at hf
  have kw0 := hts (.fieldLink RX12 19 "MilkTwiceModel" "use" "[I") (List.mem_of_getElem? (i := 1) rfl)
  have kw1 := hts (.fieldLink RX12 22 "MilkTwiceModel" "stocked" "[I") (List.mem_of_getElem? (i := 2) rfl)
  have kw2 := hts (.fieldLink RX12 31 "MilkTwiceModel" "sums" "[I") (List.mem_of_getElem? (i := 3) rfl)
  have hinX12 : ∀ w ∈ u_ws RX12 TX12 29, w ∈ wsX12_usesOf := fun w h => List.mem_cons_of_mem _ (List.mem_append_right _ h)
  refine lv_aload_n hx hb dX12_usesOf_0 rfl (lv_at hl 0 rfl) ?_
  refine mt_getr (C := RX12) (T := TX12) (N := 29) hx hb hts hinX12 hown hI hH mt_T147 rfl 3 (by decide) kw0 rfl rfl dX12_usesOf_1 ?_
  refine lv_iload_n hx hb dX12_usesOf_4 rfl (lv_at hl 1 rfl) ?_
  refine mt_ciI hf (fun q1 hf => ?_)
  refine mt_iald hx hb hI hH mt_T151 q1 dX12_usesOf_5 ?_
  refine lv_aload_n hx hb dX12_usesOf_6 rfl (lv_at hl 0 rfl) ?_
  refine mt_getr (C := RX12) (T := TX12) (N := 29) hx hb hts hinX12 hown hI hH mt_T147 rfl 4 (by decide) kw1 rfl rfl dX12_usesOf_7 ?_
  refine lv_iload_n hx hb dX12_usesOf_10 rfl (lv_at hl 1 rfl) ?_
  refine mt_ciI hf (fun q2 hf => ?_)
  refine mt_iald hx hb hI hH mt_T152 q2 dX12_usesOf_11 ?_
  refine mt_jn1 hf (fun (v3 : Int32) => ∀ (H : Heap) (locs : List Loc) (ls : Array Slot), mt_H E M u H → va_S (mt_A E) s.heap H locs → lv_has ls 4 [(0, .ref (E.2.1 147)), (1, .int a1)] → W p l e (headSpec wsX12_usesOf ({ frames := 1, cells := 0, slots := 0, locals := 22 } : Room)).room s mid (([.ref (E.2.1 147), .int a1] : List Value).toArray) below meth c0 H locs 0 0 (MQ below (mt_Qi E r M' u) (([.ref (E.2.1 147), .int a1] : List Value).toArray) s 0 0 (mt_A E)) (F0 mid 32 ls [.int v3])) ?_ ?_
  · intro v3 hf H locs ls hH hS hl
    refine lv_istore_n (lv' := [(2, .int v3), (0, .ref (E.2.1 147)), (1, .int a1)]) hx hb dX12_usesOf_32 rfl hl (by decide) rfl (fun ls hl => ?_)
    refine lv_aload_n hx hb dX12_usesOf_33 rfl (lv_at hl 1 rfl) ?_
    refine mt_getr (C := RX12) (T := TX12) (N := 29) hx hb hts hinX12 hown hI hH mt_T147 rfl 4 (by decide) kw1 rfl rfl dX12_usesOf_34 ?_
    refine lv_iload_n hx hb dX12_usesOf_37 rfl (lv_at hl 2 rfl) ?_
    refine lv_dup2_11 hx hb dX12_usesOf_38 rfl rfl ?_
    refine mt_ciI hf (fun q6 hf => ?_)
    refine mt_iald hx hb hI hH mt_T152 q6 dX12_usesOf_39 ?_
    refine lv_aload_n hx hb dX12_usesOf_40 rfl (lv_at hl 1 rfl) ?_
    refine mt_getr (C := RX12) (T := TX12) (N := 29) hx hb hts hinX12 hown hI hH mt_T147 rfl 3 (by decide) kw0 rfl rfl dX12_usesOf_41 ?_
    refine lv_iload_n hx hb dX12_usesOf_44 rfl (lv_at hl 2 rfl) ?_
    refine mt_ciI hf (fun q7 hf => ?_)
    refine mt_iald hx hb hI hH mt_T151 q7 dX12_usesOf_45 ?_
    refine lv_iload_n hx hb dX12_usesOf_46 rfl (lv_at hl 0 rfl) ?_
    refine lv_isub hx hb dX12_usesOf_47 ?_
    refine lv_isub hx hb dX12_usesOf_48 ?_
    refine mt_ciI hf (fun q9 hf => ?_)
    refine mt_iast hx hb hI hH hS mt_T152 q9 dX12_usesOf_49 (fun H locs hH hS => ?_)
    refine mt_ltI hf (fun M8 eM8 hf => ?_)
    rw [← eM8] at hH
    refine lv_aload_n hx hb dX12_usesOf_50 rfl (lv_at hl 1 rfl) ?_
    refine mt_getr (C := RX12) (T := TX12) (N := 29) hx hb hts hinX12 hown hI hH mt_T147 rfl 7 (by decide) kw2 rfl rfl dX12_usesOf_51 ?_
    refine lv_iconst (v := 1) hx hb dX12_usesOf_54 (by decide) ?_
    refine lv_dup2_11 hx hb dX12_usesOf_55 rfl rfl ?_
    refine mt_iald hx hb hI hH mt_T155 (mt_vl (by decide)) dX12_usesOf_56 ?_
    refine lv_iload_n hx hb dX12_usesOf_57 rfl (lv_at hl 0 rfl) ?_
    refine lv_iadd hx hb dX12_usesOf_58 ?_
    refine mt_iast hx hb hI hH hS mt_T155 (mt_vl (by decide)) dX12_usesOf_59 (fun H locs hH hS => ?_)
    refine mt_ltI hf (fun M10 eM10 hf => ?_)
    rw [← eM10] at hH
    refine lv_aload_n hx hb dX12_usesOf_60 rfl (lv_at hl 1 rfl) ?_
    refine lv_iload_n hx hb dX12_usesOf_61 rfl (lv_at hl 2 rfl) ?_
    refine mt_b1I hf (fun r12 hg11 hf => ?_)
    refine mt_goi (mt_runV (i := 147) (As := [.int a1]) (rest := []) ⟨hx, hb, hml, hown, hts⟩ hI hH (c_X12_lostOf l E a1 M10 u _ hg11) (cwV 1 hts gX12_usesOf_X12_lostOf rfl rfl rfl (by decide +kernel) ⟨Nat.le_of_ble_eq_true rfl, Nat.le_of_ble_eq_true rfl⟩) mt_T147 rfl rfl hl.1 rfl (Nat.le_of_ble_eq_true rfl) dX12_usesOf_62 ⟨Nat.zero_le _, Nat.zero_le _⟩) hS (fun H locs hH hS => ?_)
    refine lv_istore_n (lv' := [(3, .int r12), (2, .int v3), (0, .ref (E.2.1 147)), (1, .int a1)]) hx hb dX12_usesOf_65 rfl hl (by decide) rfl (fun ls hl => ?_)
    refine lv_aload_n hx hb dX12_usesOf_66 rfl (lv_at hl 2 rfl) ?_
    refine mt_getr (C := RX12) (T := TX12) (N := 29) hx hb hts hinX12 hown hI hH mt_T147 rfl 7 (by decide) kw2 rfl rfl dX12_usesOf_67 ?_
    refine lv_iconst (v := 2) hx hb dX12_usesOf_70 (by decide) ?_
    refine lv_dup2_11 hx hb dX12_usesOf_71 rfl rfl ?_
    refine mt_iald hx hb hI hH mt_T155 (mt_vl (by decide)) dX12_usesOf_72 ?_
    refine lv_iload_n hx hb dX12_usesOf_73 rfl (lv_at hl 0 rfl) ?_
    refine lv_iadd hx hb dX12_usesOf_74 ?_
    refine mt_iast hx hb hI hH hS mt_T155 (mt_vl (by decide)) dX12_usesOf_75 (fun H locs hH hS => ?_)
    refine mt_ltI hf (fun M13 eM13 hf => ?_)
    rw [← eM13] at hH
    refine lv_aload_n hx hb dX12_usesOf_76 rfl (lv_at hl 2 rfl) ?_
    refine mt_getr (C := RX12) (T := TX12) (N := 29) hx hb hts hinX12 hown hI hH mt_T147 rfl 4 (by decide) kw1 rfl rfl dX12_usesOf_77 ?_
    refine lv_iload_n hx hb dX12_usesOf_80 rfl (lv_at hl 3 rfl) ?_
    refine lv_dup2_11 hx hb dX12_usesOf_81 rfl rfl ?_
    refine mt_ciI hf (fun q14 hf => ?_)
    refine mt_iald hx hb hI hH mt_T152 q14 dX12_usesOf_82 ?_
    refine lv_iload_n hx hb dX12_usesOf_83 rfl (lv_at hl 0 rfl) ?_
    refine lv_isub hx hb dX12_usesOf_84 ?_
    refine mt_ciI hf (fun q16 hf => ?_)
    refine mt_iast hx hb hI hH hS mt_T152 q16 dX12_usesOf_85 (fun H locs hH hS => ?_)
    refine mt_ltI hf (fun M15 eM15 hf => ?_)
    rw [← eM15] at hH
    refine lv_iload_n hx hb dX12_usesOf_86 rfl (lv_at hl 1 rfl) ?_
    obtain ⟨i1, i2⟩ := mt_so2 hf
    subst i1
    subst i2
    exact mt_iret hx hb hr hI hH hS hlocks dX12_usesOf_87
  · intro j4 hj5 hf
    refine lv_icmp_le (tgt := 31) hx hb dX12_usesOf_12 (by decide) (fun c17 => ?_) (fun c17 => ?_)
    · have hf := mt_ifT c17 hf
      refine lv_iconst (v := 0) hx hb dX12_usesOf_31 (by decide) ?_
      exact hj5 (0 : Int32) hf _ _ _ hH hS (lv_sub hl [0, 1] rfl)
    · have hf := mt_ifF c17 hf
      refine lv_aload_n hx hb dX12_usesOf_15 rfl (lv_at hl 0 rfl) ?_
      refine mt_getr (C := RX12) (T := TX12) (N := 29) hx hb hts hinX12 hown hI hH mt_T147 rfl 3 (by decide) kw0 rfl rfl dX12_usesOf_16 ?_
      refine lv_iload_n hx hb dX12_usesOf_19 rfl (lv_at hl 1 rfl) ?_
      refine mt_ciI hf (fun q18 hf => ?_)
      refine mt_iald hx hb hI hH mt_T151 q18 dX12_usesOf_20 ?_
      refine lv_aload_n hx hb dX12_usesOf_21 rfl (lv_at hl 0 rfl) ?_
      refine mt_getr (C := RX12) (T := TX12) (N := 29) hx hb hts hinX12 hown hI hH mt_T147 rfl 4 (by decide) kw1 rfl rfl dX12_usesOf_22 ?_
      refine lv_iload_n hx hb dX12_usesOf_25 rfl (lv_at hl 1 rfl) ?_
      refine mt_ciI hf (fun q19 hf => ?_)
      refine mt_iald hx hb hI hH mt_T152 q19 dX12_usesOf_26 ?_
      refine lv_isub hx hb dX12_usesOf_27 ?_
      refine lv_goto (tgt := 32) hx hb dX12_usesOf_28 (by decide) ?_
      exact hj5 ((M 151 a1.toNatClampNeg) - (M 152 a1.toNatClampNeg)) hf _ _ _ hH hS (lv_sub hl [0, 1] rfl)
set_option maxHeartbeats 4000000 in
set_option maxRecDepth 100000 in
theorem c_X12_goesDay (l : Launch) (E : mt_E)  (M : mt_M) (u : mt_U) (r : Int32) (M' : mt_M) (hf : f_X12_goesDay M = some (r, M')) : Met l yX12_goesDay wsX12_goesDay ({ frames := 2, cells := 0, slots := 0, locals := 45 } : Room) (mt_P E [.ref (E.2.1 147)] M u) (mt_Qi E r M' u) 0 0 (mt_A E) := by
  refine Met.ofW (cc := cX12_goesDay) (maxL := 3) (ret := (some .int)) (by decide) rfl ?_
  intro p e s mid args below meth c0 s₁ B hml hv
  obtain ⟨rfl, hI, hH⟩ := hv
  have hx := B.exec
  have hb := B.bytes
  have hr := B.returns
  have hts := atoms_spec (ws := wsX12_goesDay) B.pre
  have hown : s.vm.findClass RX12 = some mid.cls := findClass_of_methodNamed B.named
  have hlocks := B.notSynchronized
  have hS : va_S (mt_A E) s.heap s.heap [] := va_S.rf
  have hl := lv_entry ([.ref (E.2.1 147)]) (n := 3) (Nat.le_of_ble_eq_true rfl)
  rw [lg_entry_eq]
  generalize (lg_sl ([.ref (E.2.1 147)]) ++ List.replicate (3 - (lg_sl ([.ref (E.2.1 147)])).length) Slot.unset).toArray = ls at hl ⊢
  have hl : lv_has ls 3 [(0, .ref (E.2.1 147))] := hl
  unfold f_X12_goesDay at hf
  have kw0 := hts (.fieldLink RX12 59 "MilkTwiceModel" "things" "I") (List.mem_of_getElem? (i := 1) rfl)
  have kw1 := hts (.fieldLink RX12 121 "MilkTwiceModel" "days" "I") (List.mem_of_getElem? (i := 2) rfl)
  have hinX12 : ∀ w ∈ u_ws RX12 TX12 29, w ∈ wsX12_goesDay := fun w h => List.mem_cons_of_mem _ (List.mem_append_right _ h)
  refine lv_iconst (v := 0) hx hb dX12_goesDay_0 (by decide) ?_
  refine lv_istore_n (lv' := [(1, .int (0 : Int32)), (0, .ref (E.2.1 147))]) hx hb dX12_goesDay_1 rfl hl (by decide) rfl (fun ls hl => ?_)
  refine lv_iconst (v := 0) hx hb dX12_goesDay_2 (by decide) ?_
  refine lv_istore_n (lv' := [(2, .int (0 : Int32)), (1, .int (0 : Int32)), (0, .ref (E.2.1 147))]) hx hb dX12_goesDay_3 rfl hl (by decide) rfl (fun ls hl => ?_)
  refine mt_lpI3 hf (fun (x1 : Int32) (x2 : Int32) (M3 : mt_M) => ∀ (H : Heap) (locs : List Loc) (ls : Array Slot), mt_H E M3 u H → va_S (mt_A E) s.heap H locs → lv_has ls 3 [(0, .ref (E.2.1 147)), (1, .int x1), (2, .int x2)] → W p l e (headSpec wsX12_goesDay ({ frames := 2, cells := 0, slots := 0, locals := 45 } : Room)).room s mid (([.ref (E.2.1 147)] : List Value).toArray) below meth c0 H locs 0 0 (MQ below (mt_Qi E r M' u) (([.ref (E.2.1 147)] : List Value).toArray) s 0 0 (mt_A E)) (F0 mid 4 ls [])) ?_ _ _ _ hH hS (lv_sub hl [2, 1, 0] rfl)
  intro k4 ih5 x1 x2 M3 hf H locs ls hH hS hl
  refine lv_iload_n hx hb dX12_goesDay_4 rfl (lv_at hl 2 rfl) ?_
  refine lv_aload_n hx hb dX12_goesDay_5 rfl (lv_at hl 0 rfl) ?_
  refine mt_geti (C := RX12) (T := TX12) (N := 29) hx hb hts hinX12 hown hI hH mt_T147 rfl 8 (by decide) kw0 rfl rfl dX12_goesDay_6 ?_
  refine lv_icmp_ge (tgt := 26) hx hb dX12_goesDay_9 (by decide) (fun c6 => ?_) (fun c6 => ?_)
  · have hf := mt_ifT c6 hf
    refine lv_aload_n hx hb dX12_goesDay_26 rfl (lv_at hl 0 rfl) ?_
    refine lv_dup hx hb dX12_goesDay_27 rfl ?_
    refine mt_geti (C := RX12) (T := TX12) (N := 29) hx hb hts hinX12 hown hI hH mt_T147 rfl 10 (by decide) kw1 rfl rfl dX12_goesDay_28 ?_
    refine lv_iconst (v := 1) hx hb dX12_goesDay_31 (by decide) ?_
    refine lv_iadd hx hb dX12_goesDay_32 ?_
    refine mt_puti (ty := .int) (C := RX12) (T := TX12) (N := 29) hx hb hts hinX12 tyX12 tyX12_ok nmX12 hown hI hH hS mt_T147 rfl 10 (by decide) kw1 rfl rfl (by decide +kernel) rfl rfl rfl dX12_goesDay_33 (fun H locs hH hS => ?_)
    refine mt_ltI hf (fun M7 eM7 hf => ?_)
    rw [← eM7] at hH
    refine lv_iload_n hx hb dX12_goesDay_36 rfl (lv_at hl 1 rfl) ?_
    obtain ⟨i1, i2⟩ := mt_so2 hf
    subst i1
    subst i2
    exact mt_iret hx hb hr hI hH hS hlocks dX12_goesDay_37
  · have hf := mt_ifF c6 hf
    refine lv_iload_n hx hb dX12_goesDay_12 rfl (lv_at hl 1 rfl) ?_
    refine lv_aload_n hx hb dX12_goesDay_13 rfl (lv_at hl 0 rfl) ?_
    refine lv_iload_n hx hb dX12_goesDay_14 rfl (lv_at hl 2 rfl) ?_
    refine mt_b2I hf (fun r9 M10 hg8 hf => ?_)
    refine mt_goi (mt_runV (i := 147) (As := [.int x2]) (rest := [.int x1]) ⟨hx, hb, hml, hown, hts⟩ hI hH (c_X12_usesOf l E x2 M3 u _ _ hg8) (cwV 1 hts gX12_goesDay_X12_usesOf rfl rfl rfl (by decide +kernel) ⟨Nat.le_of_ble_eq_true rfl, Nat.le_of_ble_eq_true rfl⟩) mt_T147 rfl rfl hl.1 rfl (Nat.le_of_ble_eq_true rfl) dX12_goesDay_15 ⟨Nat.zero_le _, Nat.zero_le _⟩) hS (fun H locs hH hS => ?_)
    refine lv_iadd hx hb dX12_goesDay_18 ?_
    refine mt_lti hf (fun x11 ex11 hf => ?_)
    refine lv_istore_n (lv' := [(1, .int x11), (0, .ref (E.2.1 147)), (2, .int x2)]) hx hb dX12_goesDay_19 rfl hl (by decide) rfl (fun ls hl => ?_)
    refine mt_ltI hf (fun x12 ex12 hf => ?_)
    refine lv_iinc (v := x12) (lv' := [(2, .int x12), (1, .int x11), (0, .ref (E.2.1 147))]) hx hb dX12_goesDay_20 hl (k := 2) rfl (by rw [ex12]; rfl) (by decide) rfl (fun ls hl => ?_)
    refine lv_goto (tgt := 4) hx hb dX12_goesDay_23 (by decide) ?_
    exact ih5 x11 x12 M10 hf _ _ _ hH hS (lv_sub hl [2, 1, 0] rfl)
set_option maxHeartbeats 4000000 in
set_option maxRecDepth 100000 in
theorem c_X12_comesDays (l : Launch) (E : mt_E) (a1 : Int32) (M : mt_M) (u : mt_U) (r : Int32) (M' : mt_M) (hf : f_X12_comesDays a1 M = some (r, M')) : Met l yX12_comesDays wsX12_comesDays ({ frames := 3, cells := 0, slots := 0, locals := 67 } : Room) (mt_P E [.ref (E.2.1 147), .int a1] M u) (mt_Qi E r M' u) 0 0 (mt_A E) := by
  refine Met.ofW (cc := cX12_comesDays) (maxL := 3) (ret := (some .boolean)) (by decide) rfl ?_
  intro p e s mid args below meth c0 s₁ B hml hv
  obtain ⟨rfl, hI, hH⟩ := hv
  have hx := B.exec
  have hb := B.bytes
  have hr := B.returns
  have hts := atoms_spec (ws := wsX12_comesDays) B.pre
  have hown : s.vm.findClass RX12 = some mid.cls := findClass_of_methodNamed B.named
  have hlocks := B.notSynchronized
  have hS : va_S (mt_A E) s.heap s.heap [] := va_S.rf
  have hl := lv_entry ([.ref (E.2.1 147), .int a1]) (n := 3) (Nat.le_of_ble_eq_true rfl)
  rw [lg_entry_eq]
  generalize (lg_sl ([.ref (E.2.1 147), .int a1]) ++ List.replicate (3 - (lg_sl ([.ref (E.2.1 147), .int a1])).length) Slot.unset).toArray = ls at hl ⊢
  have hl : lv_has ls 3 [(0, .ref (E.2.1 147)), (1, .int a1)] := hl
  unfold f_X12_comesDays at hf
  have kw0 := hts (.fieldLink RX12 121 "MilkTwiceModel" "days" "I") (List.mem_of_getElem? (i := 1) rfl)
  have hinX12 : ∀ w ∈ u_ws RX12 TX12 29, w ∈ wsX12_comesDays := fun w h => List.mem_cons_of_mem _ (List.mem_append_right _ h)
  refine lv_aload_n hx hb dX12_comesDays_0 rfl (lv_at hl 0 rfl) ?_
  refine mt_geti (C := RX12) (T := TX12) (N := 29) hx hb hts hinX12 hown hI hH mt_T147 rfl 10 (by decide) kw0 rfl rfl dX12_comesDays_1 ?_
  refine lv_iload_n hx hb dX12_comesDays_4 rfl (lv_at hl 1 rfl) ?_
  refine lv_iadd hx hb dX12_comesDays_5 ?_
  refine lv_sipush (v := 999) hx hb dX12_comesDays_6 (by decide) ?_
  refine lv_icmp_le (tgt := 14) hx hb dX12_comesDays_9 (by decide) (fun c1 => ?_) (fun c1 => ?_)
  · have hf := mt_ifT c1 hf
    refine lv_iconst (v := 0) hx hb dX12_comesDays_14 (by decide) ?_
    refine lv_istore_n (lv' := [(2, .int (0 : Int32)), (0, .ref (E.2.1 147)), (1, .int a1)]) hx hb dX12_comesDays_15 rfl hl (by decide) rfl (fun ls hl => ?_)
    refine mt_lpI2 hf (fun (x2 : Int32) (M3 : mt_M) => ∀ (H : Heap) (locs : List Loc) (ls : Array Slot), mt_H E M3 u H → va_S (mt_A E) s.heap H locs → lv_has ls 3 [(0, .ref (E.2.1 147)), (1, .int a1), (2, .int x2)] → W p l e (headSpec wsX12_comesDays ({ frames := 3, cells := 0, slots := 0, locals := 67 } : Room)).room s mid (([.ref (E.2.1 147), .int a1] : List Value).toArray) below meth c0 H locs 0 0 (MQ below (mt_Qi E r M' u) (([.ref (E.2.1 147), .int a1] : List Value).toArray) s 0 0 (mt_A E)) (F0 mid 16 ls [])) ?_ _ _ _ hH hS (lv_sub hl [1, 2, 0] rfl)
    intro k4 ih5 x2 M3 hf H locs ls hH hS hl
    refine lv_iload_n hx hb dX12_comesDays_16 rfl (lv_at hl 2 rfl) ?_
    refine lv_iload_n hx hb dX12_comesDays_17 rfl (lv_at hl 1 rfl) ?_
    refine lv_icmp_ge (tgt := 32) hx hb dX12_comesDays_18 (by decide) (fun c6 => ?_) (fun c6 => ?_)
    · have hf := mt_ifT c6 hf
      refine lv_iconst (v := 1) hx hb dX12_comesDays_32 (by decide) ?_
      obtain ⟨i1, i2⟩ := mt_so2 hf
      subst i1
      subst i2
      exact mt_zret hx hb hr hI hH hS (by decide) hlocks dX12_comesDays_33
    · have hf := mt_ifF c6 hf
      refine lv_aload_n hx hb dX12_comesDays_21 rfl (lv_at hl 0 rfl) ?_
      refine mt_b2I hf (fun r8 M9 hg7 hf => ?_)
      refine mt_goi (mt_runV (i := 147) (As := []) (rest := []) ⟨hx, hb, hml, hown, hts⟩ hI hH (c_X12_goesDay l E M3 u _ _ hg7) (cwV 0 hts gX12_comesDays_X12_goesDay rfl rfl rfl (by decide +kernel) ⟨Nat.le_of_ble_eq_true rfl, Nat.le_of_ble_eq_true rfl⟩) mt_T147 rfl rfl hl.1 rfl (Nat.le_of_ble_eq_true rfl) dX12_comesDays_22 ⟨Nat.zero_le _, Nat.zero_le _⟩) hS (fun H locs hH hS => ?_)
      refine lv_pop hx hb dX12_comesDays_25 rfl ?_
      refine mt_ltI hf (fun x10 ex10 hf => ?_)
      refine lv_iinc (v := x10) (lv' := [(2, .int x10), (0, .ref (E.2.1 147)), (1, .int a1)]) hx hb dX12_comesDays_26 hl (k := 2) rfl (by rw [ex10]; rfl) (by decide) rfl (fun ls hl => ?_)
      refine lv_goto (tgt := 16) hx hb dX12_comesDays_29 (by decide) ?_
      exact ih5 x10 M9 hf _ _ _ hH hS (lv_sub hl [1, 2, 0] rfl)
  · have hf := mt_ifF c1 hf
    refine lv_iconst (v := 0) hx hb dX12_comesDays_12 (by decide) ?_
    obtain ⟨i1, i2⟩ := mt_so2 hf
    subst i1
    subst i2
    exact mt_zret hx hb hr hI hH hS (by decide) hlocks dX12_comesDays_13
set_option maxHeartbeats 4000000 in
set_option maxRecDepth 100000 in
theorem c_X12_adds (l : Launch) (E : mt_E) (a1 : Int32) (a2 : Int32) (a3 : Int32) (M : mt_M) (u : mt_U) (M' : mt_M) (hf : f_X12_adds a1 a2 a3 M = some (M')) : Met l yX12_adds wsX12_adds ({ frames := 0, cells := 0, slots := 0, locals := 0 } : Room) (mt_P E [.ref (E.2.1 147), .int a1, .int a2, .int a3] M u) (mt_Qv E M' u) 0 0 (mt_A E) := by
  refine Met.ofW (cc := cX12_adds) (maxL := 5) (ret := none) (by decide) rfl ?_
  intro p e s mid args below meth c0 s₁ B hml hv
  obtain ⟨rfl, hI, hH⟩ := hv
  have hx := B.exec
  have hb := B.bytes
  have hr := B.returns
  have hts := atoms_spec (ws := wsX12_adds) B.pre
  have hown : s.vm.findClass RX12 = some mid.cls := findClass_of_methodNamed B.named
  have hlocks := B.notSynchronized
  have hS : va_S (mt_A E) s.heap s.heap [] := va_S.rf
  have hl := lv_entry ([.ref (E.2.1 147), .int a1, .int a2, .int a3]) (n := 5) (Nat.le_of_ble_eq_true rfl)
  rw [lg_entry_eq]
  generalize (lg_sl ([.ref (E.2.1 147), .int a1, .int a2, .int a3]) ++ List.replicate (5 - (lg_sl ([.ref (E.2.1 147), .int a1, .int a2, .int a3])).length) Slot.unset).toArray = ls at hl ⊢
  have hl : lv_has ls 5 [(0, .ref (E.2.1 147)), (1, .int a1), (2, .int a2), (3, .int a3)] := hl
  unfold f_X12_adds at hf
  have kw0 := hts (.fieldLink RX12 13 "MilkTwiceModel" "kind" "[I") (List.mem_of_getElem? (i := 1) rfl)
  have kw1 := hts (.fieldLink RX12 59 "MilkTwiceModel" "things" "I") (List.mem_of_getElem? (i := 2) rfl)
  have kw2 := hts (.fieldLink RX12 16 "MilkTwiceModel" "figure" "[I") (List.mem_of_getElem? (i := 3) rfl)
  have kw3 := hts (.fieldLink RX12 19 "MilkTwiceModel" "use" "[I") (List.mem_of_getElem? (i := 4) rfl)
  have kw4 := hts (.fieldLink RX12 22 "MilkTwiceModel" "stocked" "[I") (List.mem_of_getElem? (i := 5) rfl)
  have kw5 := hts (.fieldLink RX12 25 "MilkTwiceModel" "wanted" "[I") (List.mem_of_getElem? (i := 6) rfl)
  have kw6 := hts (.fieldLink RX12 28 "MilkTwiceModel" "clock" "[I") (List.mem_of_getElem? (i := 7) rfl)
  have hinX12 : ∀ w ∈ u_ws RX12 TX12 29, w ∈ wsX12_adds := fun w h => List.mem_cons_of_mem _ (List.mem_append_right _ h)
  refine lv_aload_n hx hb dX12_adds_0 rfl (lv_at hl 0 rfl) ?_
  refine mt_getr (C := RX12) (T := TX12) (N := 29) hx hb hts hinX12 hown hI hH mt_T147 rfl 1 (by decide) kw0 rfl rfl dX12_adds_1 ?_
  refine lv_aload_n hx hb dX12_adds_4 rfl (lv_at hl 0 rfl) ?_
  refine mt_geti (C := RX12) (T := TX12) (N := 29) hx hb hts hinX12 hown hI hH mt_T147 rfl 8 (by decide) kw1 rfl rfl dX12_adds_5 ?_
  refine lv_iload_n hx hb dX12_adds_8 rfl (lv_at hl 1 rfl) ?_
  refine mt_ciI hf (fun q2 hf => ?_)
  refine mt_iast hx hb hI hH hS mt_T149 q2 dX12_adds_9 (fun H locs hH hS => ?_)
  refine mt_ltI hf (fun M1 eM1 hf => ?_)
  rw [← eM1] at hH
  refine lv_aload_n hx hb dX12_adds_10 rfl (lv_at hl 0 rfl) ?_
  refine mt_getr (C := RX12) (T := TX12) (N := 29) hx hb hts hinX12 hown hI hH mt_T147 rfl 2 (by decide) kw2 rfl rfl dX12_adds_11 ?_
  refine lv_aload_n hx hb dX12_adds_14 rfl (lv_at hl 0 rfl) ?_
  refine mt_geti (C := RX12) (T := TX12) (N := 29) hx hb hts hinX12 hown hI hH mt_T147 rfl 8 (by decide) kw1 rfl rfl dX12_adds_15 ?_
  refine lv_iload_n hx hb dX12_adds_18 rfl (lv_at hl 2 rfl) ?_
  refine mt_ciI hf (fun q4 hf => ?_)
  refine mt_iast hx hb hI hH hS mt_T150 q4 dX12_adds_19 (fun H locs hH hS => ?_)
  refine mt_ltI hf (fun M3 eM3 hf => ?_)
  rw [← eM3] at hH
  refine lv_aload_n hx hb dX12_adds_20 rfl (lv_at hl 0 rfl) ?_
  refine mt_getr (C := RX12) (T := TX12) (N := 29) hx hb hts hinX12 hown hI hH mt_T147 rfl 3 (by decide) kw3 rfl rfl dX12_adds_21 ?_
  refine lv_aload_n hx hb dX12_adds_24 rfl (lv_at hl 0 rfl) ?_
  refine mt_geti (C := RX12) (T := TX12) (N := 29) hx hb hts hinX12 hown hI hH mt_T147 rfl 8 (by decide) kw1 rfl rfl dX12_adds_25 ?_
  refine lv_iload_n hx hb dX12_adds_28 rfl (lv_at hl 3 rfl) ?_
  refine mt_ciI hf (fun q6 hf => ?_)
  refine mt_iast hx hb hI hH hS mt_T151 q6 dX12_adds_29 (fun H locs hH hS => ?_)
  refine mt_ltI hf (fun M5 eM5 hf => ?_)
  rw [← eM5] at hH
  refine lv_aload_n hx hb dX12_adds_30 rfl (lv_at hl 0 rfl) ?_
  refine mt_getr (C := RX12) (T := TX12) (N := 29) hx hb hts hinX12 hown hI hH mt_T147 rfl 4 (by decide) kw4 rfl rfl dX12_adds_31 ?_
  refine lv_aload_n hx hb dX12_adds_34 rfl (lv_at hl 0 rfl) ?_
  refine mt_geti (C := RX12) (T := TX12) (N := 29) hx hb hts hinX12 hown hI hH mt_T147 rfl 8 (by decide) kw1 rfl rfl dX12_adds_35 ?_
  refine lv_iconst (v := 0) hx hb dX12_adds_38 (by decide) ?_
  refine mt_ciI hf (fun q8 hf => ?_)
  refine mt_iast hx hb hI hH hS mt_T152 q8 dX12_adds_39 (fun H locs hH hS => ?_)
  refine mt_ltI hf (fun M7 eM7 hf => ?_)
  rw [← eM7] at hH
  refine lv_iconst (v := 0) hx hb dX12_adds_40 (by decide) ?_
  refine lv_istore (lv' := [(4, .int (0 : Int32)), (0, .ref (E.2.1 147)), (1, .int a1), (2, .int a2), (3, .int a3)]) hx hb dX12_adds_41 hl (by decide) rfl (fun ls hl => ?_)
  refine mt_lpI2 hf (fun (x9 : Int32) (M10 : mt_M) => ∀ (H : Heap) (locs : List Loc) (ls : Array Slot), mt_H E M10 u H → va_S (mt_A E) s.heap H locs → lv_has ls 5 [(0, .ref (E.2.1 147)), (4, .int x9)] → W p l e (headSpec wsX12_adds ({ frames := 0, cells := 0, slots := 0, locals := 0 } : Room)).room s mid (([.ref (E.2.1 147), .int a1, .int a2, .int a3] : List Value).toArray) below meth c0 H locs 0 0 (MQ below (mt_Qv E M' u) (([.ref (E.2.1 147), .int a1, .int a2, .int a3] : List Value).toArray) s 0 0 (mt_A E)) (F0 mid 43 ls [])) ?_ _ _ _ hH hS (lv_sub hl [1, 0] rfl)
  intro k11 ih12 x9 M10 hf H locs ls hH hS hl
  refine lv_iload hx hb dX12_adds_43 (lv_at hl 1 rfl) ?_
  refine lv_iconst (v := 2) hx hb dX12_adds_45 (by decide) ?_
  refine lv_icmp_ge (tgt := 87) hx hb dX12_adds_46 (by decide) (fun c13 => ?_) (fun c13 => ?_)
  · have hf := mt_ifT c13 hf
    refine lv_aload_n hx hb dX12_adds_87 rfl (lv_at hl 0 rfl) ?_
    refine lv_dup hx hb dX12_adds_88 rfl ?_
    refine mt_geti (C := RX12) (T := TX12) (N := 29) hx hb hts hinX12 hown hI hH mt_T147 rfl 8 (by decide) kw1 rfl rfl dX12_adds_89 ?_
    refine lv_iconst (v := 1) hx hb dX12_adds_92 (by decide) ?_
    refine lv_iadd hx hb dX12_adds_93 ?_
    refine mt_puti (ty := .int) (C := RX12) (T := TX12) (N := 29) hx hb hts hinX12 tyX12 tyX12_ok nmX12 hown hI hH hS mt_T147 rfl 8 (by decide) kw1 rfl rfl (by decide +kernel) rfl rfl rfl dX12_adds_94 (fun H locs hH hS => ?_)
    refine mt_ltI hf (fun M14 eM14 hf => ?_)
    rw [← eM14] at hH
    have i1 := mt_so1 hf
    subst i1
    exact mt_vret hx hb hr hI hH hS hlocks dX12_adds_97
  · have hf := mt_ifF c13 hf
    refine lv_aload_n hx hb dX12_adds_49 rfl (lv_at hl 0 rfl) ?_
    refine mt_getr (C := RX12) (T := TX12) (N := 29) hx hb hts hinX12 hown hI hH mt_T147 rfl 5 (by decide) kw5 rfl rfl dX12_adds_50 ?_
    refine lv_bipush (v := 7) hx hb dX12_adds_53 (by decide) ?_
    refine lv_iload hx hb dX12_adds_55 (lv_at hl 1 rfl) ?_
    refine lv_imul hx hb dX12_adds_57 ?_
    refine lv_aload_n hx hb dX12_adds_58 rfl (lv_at hl 0 rfl) ?_
    refine mt_geti (C := RX12) (T := TX12) (N := 29) hx hb hts hinX12 hown hI hH mt_T147 rfl 8 (by decide) kw1 rfl rfl dX12_adds_59 ?_
    refine lv_iadd hx hb dX12_adds_62 ?_
    refine lv_iconst (v := 0) hx hb dX12_adds_63 (by decide) ?_
    refine mt_ciI hf (fun q16 hf => ?_)
    refine mt_iast hx hb hI hH hS mt_T153 q16 dX12_adds_64 (fun H locs hH hS => ?_)
    refine mt_ltI hf (fun M15 eM15 hf => ?_)
    rw [← eM15] at hH
    refine lv_aload_n hx hb dX12_adds_65 rfl (lv_at hl 0 rfl) ?_
    refine mt_getr (C := RX12) (T := TX12) (N := 29) hx hb hts hinX12 hown hI hH mt_T147 rfl 6 (by decide) kw6 rfl rfl dX12_adds_66 ?_
    refine lv_bipush (v := 7) hx hb dX12_adds_69 (by decide) ?_
    refine lv_iload hx hb dX12_adds_71 (lv_at hl 1 rfl) ?_
    refine lv_imul hx hb dX12_adds_73 ?_
    refine lv_aload_n hx hb dX12_adds_74 rfl (lv_at hl 0 rfl) ?_
    refine mt_geti (C := RX12) (T := TX12) (N := 29) hx hb hts hinX12 hown hI hH mt_T147 rfl 8 (by decide) kw1 rfl rfl dX12_adds_75 ?_
    refine lv_iadd hx hb dX12_adds_78 ?_
    refine lv_iconst (v := 0) hx hb dX12_adds_79 (by decide) ?_
    refine mt_ciI hf (fun q18 hf => ?_)
    refine mt_iast hx hb hI hH hS mt_T154 q18 dX12_adds_80 (fun H locs hH hS => ?_)
    refine mt_ltI hf (fun M17 eM17 hf => ?_)
    rw [← eM17] at hH
    refine mt_ltI hf (fun x19 ex19 hf => ?_)
    refine lv_iinc (v := x19) (lv' := [(4, .int x19), (0, .ref (E.2.1 147))]) hx hb dX12_adds_81 hl (k := 1) rfl (by rw [ex19]; rfl) (by decide) rfl (fun ls hl => ?_)
    refine lv_goto (tgt := 43) hx hb dX12_adds_84 (by decide) ?_
    exact ih12 x19 M17 hf _ _ _ hH hS (lv_sub hl [1, 0] rfl)
set_option maxHeartbeats 4000000 in
set_option maxRecDepth 100000 in
theorem c_X12_later (l : Launch) (E : mt_E) (a1 : Int32) (M : mt_M) (u : mt_U) (r : Int32) (hf : f_X12_later a1 M = some (r)) : Met l yX12_later wsX12_later ({ frames := 0, cells := 0, slots := 0, locals := 0 } : Room) (mt_P E [.ref (E.2.1 147), .int a1] M u) (mt_Qi E r M u) 0 0 (mt_A E) := by
  refine Met.ofW (cc := cX12_later) (maxL := 2) (ret := (some .int)) (by decide) rfl ?_
  intro p e s mid args below meth c0 s₁ B hml hv
  obtain ⟨rfl, hI, hH⟩ := hv
  have hx := B.exec
  have hb := B.bytes
  have hr := B.returns
  have hts := atoms_spec (ws := wsX12_later) B.pre
  have hown : s.vm.findClass RX12 = some mid.cls := findClass_of_methodNamed B.named
  have hlocks := B.notSynchronized
  have hS : va_S (mt_A E) s.heap s.heap [] := va_S.rf
  have hl := lv_entry ([.ref (E.2.1 147), .int a1]) (n := 2) (Nat.le_of_ble_eq_true rfl)
  rw [lg_entry_eq]
  generalize (lg_sl ([.ref (E.2.1 147), .int a1]) ++ List.replicate (2 - (lg_sl ([.ref (E.2.1 147), .int a1])).length) Slot.unset).toArray = ls at hl ⊢
  have hl : lv_has ls 2 [(0, .ref (E.2.1 147)), (1, .int a1)] := hl
  unfold f_X12_later at hf
  have kw0 := hts (.fieldLink RX12 28 "MilkTwiceModel" "clock" "[I") (List.mem_of_getElem? (i := 1) rfl)
  have hinX12 : ∀ w ∈ u_ws RX12 TX12 29, w ∈ wsX12_later := fun w h => List.mem_cons_of_mem _ (List.mem_append_right _ h)
  refine lv_aload_n hx hb dX12_later_0 rfl (lv_at hl 0 rfl) ?_
  refine mt_getr (C := RX12) (T := TX12) (N := 29) hx hb hts hinX12 hown hI hH mt_T147 rfl 6 (by decide) kw0 rfl rfl dX12_later_1 ?_
  refine lv_bipush (v := 7) hx hb dX12_later_4 (by decide) ?_
  refine lv_iload_n hx hb dX12_later_6 rfl (lv_at hl 1 rfl) ?_
  refine lv_iadd hx hb dX12_later_7 ?_
  refine mt_ciI hf (fun q1 hf => ?_)
  refine mt_iald hx hb hI hH mt_T154 q1 dX12_later_8 ?_
  refine lv_aload_n hx hb dX12_later_9 rfl (lv_at hl 0 rfl) ?_
  refine mt_getr (C := RX12) (T := TX12) (N := 29) hx hb hts hinX12 hown hI hH mt_T147 rfl 6 (by decide) kw0 rfl rfl dX12_later_10 ?_
  refine lv_iload_n hx hb dX12_later_13 rfl (lv_at hl 1 rfl) ?_
  refine mt_ciI hf (fun q2 hf => ?_)
  refine mt_iald hx hb hI hH mt_T154 q2 dX12_later_14 ?_
  refine lv_icmp_le (tgt := 22) hx hb dX12_later_15 (by decide) (fun c3 => ?_) (fun c3 => ?_)
  · have hf := mt_ifT c3 hf
    refine lv_iconst (v := 0) hx hb dX12_later_22 (by decide) ?_
    have i1 := mt_so1 hf
    subst i1
    exact mt_iret hx hb hr hI hH hS hlocks dX12_later_23
  · have hf := mt_ifF c3 hf
    refine lv_iconst (v := 1) hx hb dX12_later_18 (by decide) ?_
    refine lv_goto (tgt := 23) hx hb dX12_later_19 (by decide) ?_
    have i1 := mt_so1 hf
    subst i1
    exact mt_iret hx hb hr hI hH hS hlocks dX12_later_23
set_option maxHeartbeats 4000000 in
set_option maxRecDepth 100000 in
theorem c_X12_wantedBy (l : Launch) (E : mt_E) (a1 : Int32) (a2 : Int32) (M : mt_M) (u : mt_U) (r : Int32) (hf : f_X12_wantedBy a1 a2 M = some (r)) : Met l yX12_wantedBy wsX12_wantedBy ({ frames := 1, cells := 0, slots := 0, locals := 22 } : Room) (mt_P E [.ref (E.2.1 147), .int a1, .int a2] M u) (mt_Qi E r M u) 0 0 (mt_A E) := by
  refine Met.ofW (cc := cX12_wantedBy) (maxL := 7) (ret := (some .int)) (by decide) rfl ?_
  intro p e s mid args below meth c0 s₁ B hml hv
  obtain ⟨rfl, hI, hH⟩ := hv
  have hx := B.exec
  have hb := B.bytes
  have hr := B.returns
  have hts := atoms_spec (ws := wsX12_wantedBy) B.pre
  have hown : s.vm.findClass RX12 = some mid.cls := findClass_of_methodNamed B.named
  have hlocks := B.notSynchronized
  have hS : va_S (mt_A E) s.heap s.heap [] := va_S.rf
  have hl := lv_entry ([.ref (E.2.1 147), .int a1, .int a2]) (n := 7) (Nat.le_of_ble_eq_true rfl)
  rw [lg_entry_eq]
  generalize (lg_sl ([.ref (E.2.1 147), .int a1, .int a2]) ++ List.replicate (7 - (lg_sl ([.ref (E.2.1 147), .int a1, .int a2])).length) Slot.unset).toArray = ls at hl ⊢
  have hl : lv_has ls 7 [(0, .ref (E.2.1 147)), (1, .int a1), (2, .int a2)] := hl
  unfold f_X12_wantedBy at hf
  have kw0 := hts (.fieldLink RX12 25 "MilkTwiceModel" "wanted" "[I") (List.mem_of_getElem? (i := 1) rfl)
  have kw1 := hts (.fieldLink RX12 28 "MilkTwiceModel" "clock" "[I") (List.mem_of_getElem? (i := 2) rfl)
  have hinX12 : ∀ w ∈ u_ws RX12 TX12 29, w ∈ wsX12_wantedBy := fun w h => List.mem_cons_of_mem _ (List.mem_append_right _ h)
  refine lv_aload_n hx hb dX12_wantedBy_0 rfl (lv_at hl 0 rfl) ?_
  refine mt_getr (C := RX12) (T := TX12) (N := 29) hx hb hts hinX12 hown hI hH mt_T147 rfl 5 (by decide) kw0 rfl rfl dX12_wantedBy_1 ?_
  refine lv_iload_n hx hb dX12_wantedBy_4 rfl (lv_at hl 2 rfl) ?_
  refine mt_ciI hf (fun q1 hf => ?_)
  refine mt_iald hx hb hI hH mt_T153 q1 dX12_wantedBy_5 ?_
  refine mt_lti hf (fun x2 ex2 hf => ?_)
  refine lv_istore_n (lv' := [(3, .int x2), (0, .ref (E.2.1 147)), (1, .int a1), (2, .int a2)]) hx hb dX12_wantedBy_6 rfl hl (by decide) rfl (fun ls hl => ?_)
  refine lv_aload_n hx hb dX12_wantedBy_7 rfl (lv_at hl 1 rfl) ?_
  refine mt_getr (C := RX12) (T := TX12) (N := 29) hx hb hts hinX12 hown hI hH mt_T147 rfl 5 (by decide) kw0 rfl rfl dX12_wantedBy_8 ?_
  refine lv_bipush (v := 7) hx hb dX12_wantedBy_11 (by decide) ?_
  refine lv_iload_n hx hb dX12_wantedBy_13 rfl (lv_at hl 3 rfl) ?_
  refine lv_iadd hx hb dX12_wantedBy_14 ?_
  refine mt_ciI hf (fun q3 hf => ?_)
  refine mt_iald hx hb hI hH mt_T153 q3 dX12_wantedBy_15 ?_
  refine mt_lti hf (fun x4 ex4 hf => ?_)
  refine lv_istore (lv' := [(4, .int x4), (3, .int x2), (0, .ref (E.2.1 147)), (1, .int a1), (2, .int a2)]) hx hb dX12_wantedBy_16 hl (by decide) rfl (fun ls hl => ?_)
  refine lv_aload_n hx hb dX12_wantedBy_18 rfl (lv_at hl 2 rfl) ?_
  refine mt_getr (C := RX12) (T := TX12) (N := 29) hx hb hts hinX12 hown hI hH mt_T147 rfl 6 (by decide) kw1 rfl rfl dX12_wantedBy_19 ?_
  refine lv_iload_n hx hb dX12_wantedBy_22 rfl (lv_at hl 4 rfl) ?_
  refine mt_ciI hf (fun q5 hf => ?_)
  refine mt_iald hx hb hI hH mt_T154 q5 dX12_wantedBy_23 ?_
  refine lv_aload_n hx hb dX12_wantedBy_24 rfl (lv_at hl 2 rfl) ?_
  refine mt_getr (C := RX12) (T := TX12) (N := 29) hx hb hts hinX12 hown hI hH mt_T147 rfl 6 (by decide) kw1 rfl rfl dX12_wantedBy_25 ?_
  refine lv_bipush (v := 7) hx hb dX12_wantedBy_28 (by decide) ?_
  refine lv_iload_n hx hb dX12_wantedBy_30 rfl (lv_at hl 4 rfl) ?_
  refine lv_iadd hx hb dX12_wantedBy_31 ?_
  refine mt_ciI hf (fun q6 hf => ?_)
  refine mt_iald hx hb hI hH mt_T154 q6 dX12_wantedBy_32 ?_
  refine lv_isub hx hb dX12_wantedBy_33 ?_
  refine mt_lti hf (fun x7 ex7 hf => ?_)
  refine lv_istore (lv' := [(5, .int x7), (4, .int x4), (3, .int x2), (0, .ref (E.2.1 147)), (1, .int a1), (2, .int a2)]) hx hb dX12_wantedBy_34 hl (by decide) rfl (fun ls hl => ?_)
  refine lv_iload hx hb dX12_wantedBy_36 (lv_at hl 0 rfl) ?_
  refine lv_bipush (v := (-2)) hx hb dX12_wantedBy_38 (by decide) ?_
  refine lv_iconst (v := 2) hx hb dX12_wantedBy_40 (by decide) ?_
  refine mt_b1I hf (fun r9 hg8 hf => ?_)
  refine mt_goi (mt_runS (As := [.int x7, .int (-2 : Int32), .int (2 : Int32)]) (rest := []) ⟨hx, hb, hml, hown, hts⟩ hI hH (c_X12_isIn l E x7 (-2 : Int32) (2 : Int32) M u _ hg8) (va_cwS 3 hts gX12_wantedBy_X12_isIn rfl rfl rfl (by decide +kernel) ⟨Nat.le_of_ble_eq_true rfl, Nat.le_of_ble_eq_true rfl⟩) rfl hl.1 rfl (Nat.le_of_ble_eq_true rfl) dX12_wantedBy_41 ⟨Nat.zero_le _, Nat.zero_le _⟩) hS (fun H locs hH hS => ?_)
  refine lv_istore (lv' := [(6, .int r9), (5, .int x7), (4, .int x4), (3, .int x2), (0, .ref (E.2.1 147)), (1, .int a1), (2, .int a2)]) hx hb dX12_wantedBy_44 hl (by decide) rfl (fun ls hl => ?_)
  refine lv_iload_n hx hb dX12_wantedBy_46 rfl (lv_at hl 5 rfl) ?_
  refine lv_iconst (v := 1) hx hb dX12_wantedBy_47 (by decide) ?_
  refine lv_icmp_eq (tgt := 61) hx hb dX12_wantedBy_48 (by decide) (fun c10 => ?_) (fun c10 => ?_)
  · have hf := mt_ifT c10 hf
    refine lv_iload_n hx hb dX12_wantedBy_61 rfl (lv_at hl 3 rfl) ?_
    refine lv_iload hx hb dX12_wantedBy_62 (lv_at hl 2 rfl) ?_
    refine lv_ior hx hb dX12_wantedBy_64 ?_
    have i1 := mt_so1 hf
    subst i1
    exact mt_iret hx hb hr hI hH hS hlocks dX12_wantedBy_65
  · have hf := mt_ifF c10 hf
    refine lv_iload_n hx hb dX12_wantedBy_51 rfl (lv_at hl 5 rfl) ?_
    refine lv_iconst (v := 3) hx hb dX12_wantedBy_52 (by decide) ?_
    refine mt_jn0 hf (∀ (H : Heap) (locs : List Loc) (ls : Array Slot), mt_H E M u H → va_S (mt_A E) s.heap H locs → lv_has ls 7 [(0, .ref (E.2.1 147)), (1, .int a1), (2, .int a2), (3, .int x2), (4, .int x4)] → W p l e (headSpec wsX12_wantedBy ({ frames := 1, cells := 0, slots := 0, locals := 22 } : Room)).room s mid (([.ref (E.2.1 147), .int a1, .int a2] : List Value).toArray) below meth c0 H locs 0 0 (MQ below (mt_Qi E r M u) (([.ref (E.2.1 147), .int a1, .int a2] : List Value).toArray) s 0 0 (mt_A E)) (F0 mid 66 ls [])) ?_ ?_
    · intro hf H locs ls hH hS hl
      refine lv_iload_n hx hb dX12_wantedBy_66 rfl (lv_at hl 1 rfl) ?_
      refine lv_iconst (v := 2) hx hb dX12_wantedBy_67 (by decide) ?_
      refine lv_icmp_ne (tgt := 78) hx hb dX12_wantedBy_68 (by decide) (fun c13 => ?_) (fun c13 => ?_)
      · have hf := mt_ifF c13 hf
        refine lv_aload_n hx hb dX12_wantedBy_78 rfl (lv_at hl 0 rfl) ?_
        refine lv_iload_n hx hb dX12_wantedBy_79 rfl (lv_at hl 2 rfl) ?_
        refine mt_b1I hf (fun r15 hg14 hf => ?_)
        refine mt_goi (mt_runV (i := 147) (As := [.int a2]) (rest := []) ⟨hx, hb, hml, hown, hts⟩ hI hH (c_X12_later l E a2 M u _ hg14) (cwV 1 hts gX12_wantedBy_X12_later rfl rfl rfl (by decide +kernel) ⟨Nat.le_of_ble_eq_true rfl, Nat.le_of_ble_eq_true rfl⟩) mt_T147 rfl rfl hl.1 rfl (Nat.le_of_ble_eq_true rfl) dX12_wantedBy_80 ⟨Nat.zero_le _, Nat.zero_le _⟩) hS (fun H locs hH hS => ?_)
        refine lv_iconst (v := 1) hx hb dX12_wantedBy_83 (by decide) ?_
        refine lv_icmp_ne (tgt := 92) hx hb dX12_wantedBy_84 (by decide) (fun c16 => ?_) (fun c16 => ?_)
        · have hf := mt_ifF c16 hf
          refine lv_iload_n hx hb dX12_wantedBy_92 rfl (lv_at hl 3 rfl) ?_
          have i1 := mt_so1 hf
          subst i1
          exact mt_iret hx hb hr hI hH hS hlocks dX12_wantedBy_93
        · have hf := mt_ifT c16 hf
          refine lv_iload hx hb dX12_wantedBy_87 (lv_at hl 4 rfl) ?_
          refine lv_goto (tgt := 93) hx hb dX12_wantedBy_89 (by decide) ?_
          have i1 := mt_so1 hf
          subst i1
          exact mt_iret hx hb hr hI hH hS hlocks dX12_wantedBy_93
      · have hf := mt_ifT c13 hf
        refine lv_iload_n hx hb dX12_wantedBy_71 rfl (lv_at hl 3 rfl) ?_
        refine lv_iload hx hb dX12_wantedBy_72 (lv_at hl 4 rfl) ?_
        refine lv_iand hx hb dX12_wantedBy_74 ?_
        refine lv_goto (tgt := 93) hx hb dX12_wantedBy_75 (by decide) ?_
        have i1 := mt_so1 hf
        subst i1
        exact mt_iret hx hb hr hI hH hS hlocks dX12_wantedBy_93
    · intro j11 hj12 hf
      refine lv_icmp_ne (tgt := 66) hx hb dX12_wantedBy_53 (by decide) (fun c17 => ?_) (fun c17 => ?_)
      · have hf := mt_ifF c17 hf
        exact hj12 hf _ _ _ hH hS (lv_sub hl [4, 5, 6, 3, 2] rfl)
      · have hf := mt_ifT c17 hf
        refine lv_iload hx hb dX12_wantedBy_56 (lv_at hl 0 rfl) ?_
        refine lv_if_eq (tgt := 66) hx hb dX12_wantedBy_58 (by decide) (fun c18 => ?_) (fun c18 => ?_)
        · have hf := mt_ifT c18 hf
          exact hj12 hf _ _ _ hH hS (lv_sub hl [4, 5, 6, 3, 2] rfl)
        · have hf := mt_ifF c18 hf
          refine lv_iload_n hx hb dX12_wantedBy_61 rfl (lv_at hl 3 rfl) ?_
          refine lv_iload hx hb dX12_wantedBy_62 (lv_at hl 2 rfl) ?_
          refine lv_ior hx hb dX12_wantedBy_64 ?_
          have i1 := mt_so1 hf
          subst i1
          exact mt_iret hx hb hr hI hH hS hlocks dX12_wantedBy_65
set_option maxHeartbeats 4000000 in
set_option maxRecDepth 100000 in
theorem c_X12_joins (l : Launch) (E : mt_E)  (M : mt_M) (u : mt_U) (r : Int32) (M' : mt_M) (hf : f_X12_joins M = some (r, M')) : Met l yX12_joins wsX12_joins ({ frames := 2, cells := 0, slots := 0, locals := 48 } : Room) (mt_P E [.ref (E.2.1 147)] M u) (mt_Qi E r M' u) 0 0 (mt_A E) := by
  refine Met.ofW (cc := cX12_joins) (maxL := 6) (ret := (some .int)) (by decide) rfl ?_
  intro p e s mid args below meth c0 s₁ B hml hv
  obtain ⟨rfl, hI, hH⟩ := hv
  have hx := B.exec
  have hb := B.bytes
  have hr := B.returns
  have hts := atoms_spec (ws := wsX12_joins) B.pre
  have hown : s.vm.findClass RX12 = some mid.cls := findClass_of_methodNamed B.named
  have hlocks := B.notSynchronized
  have hS : va_S (mt_A E) s.heap s.heap [] := va_S.rf
  have hl := lv_entry ([.ref (E.2.1 147)]) (n := 6) (Nat.le_of_ble_eq_true rfl)
  rw [lg_entry_eq]
  generalize (lg_sl ([.ref (E.2.1 147)]) ++ List.replicate (6 - (lg_sl ([.ref (E.2.1 147)])).length) Slot.unset).toArray = ls at hl ⊢
  have hl : lv_has ls 6 [(0, .ref (E.2.1 147))] := hl
  unfold f_X12_joins at hf
  have kw0 := hts (.fieldLink RX12 59 "MilkTwiceModel" "things" "I") (List.mem_of_getElem? (i := 1) rfl)
  have kw1 := hts (.fieldLink RX12 133 "MilkTwiceModel" "rule" "I") (List.mem_of_getElem? (i := 2) rfl)
  have kw2 := hts (.fieldLink RX12 25 "MilkTwiceModel" "wanted" "[I") (List.mem_of_getElem? (i := 4) rfl)
  have kw3 := hts (.fieldLink RX12 28 "MilkTwiceModel" "clock" "[I") (List.mem_of_getElem? (i := 3) rfl)
  have hinX12 : ∀ w ∈ u_ws RX12 TX12 29, w ∈ wsX12_joins := fun w h => List.mem_cons_of_mem _ (List.mem_append_right _ h)
  refine lv_iconst (v := 0) hx hb dX12_joins_0 (by decide) ?_
  refine lv_istore_n (lv' := [(1, .int (0 : Int32)), (0, .ref (E.2.1 147))]) hx hb dX12_joins_1 rfl hl (by decide) rfl (fun ls hl => ?_)
  refine lv_iconst (v := 0) hx hb dX12_joins_2 (by decide) ?_
  refine lv_istore_n (lv' := [(2, .int (0 : Int32)), (1, .int (0 : Int32)), (0, .ref (E.2.1 147))]) hx hb dX12_joins_3 rfl hl (by decide) rfl (fun ls hl => ?_)
  refine mt_lpI3 hf (fun (x1 : Int32) (x2 : Int32) (M3 : mt_M) => ∀ (H : Heap) (locs : List Loc) (ls : Array Slot), mt_H E M3 u H → va_S (mt_A E) s.heap H locs → lv_has ls 6 [(0, .ref (E.2.1 147)), (1, .int x1), (2, .int x2)] → W p l e (headSpec wsX12_joins ({ frames := 2, cells := 0, slots := 0, locals := 48 } : Room)).room s mid (([.ref (E.2.1 147)] : List Value).toArray) below meth c0 H locs 0 0 (MQ below (mt_Qi E r M' u) (([.ref (E.2.1 147)] : List Value).toArray) s 0 0 (mt_A E)) (F0 mid 4 ls [])) ?_ _ _ _ hH hS (lv_sub hl [2, 1, 0] rfl)
  intro k4 ih5 x1 x2 M3 hf H locs ls hH hS hl
  refine lv_iload_n hx hb dX12_joins_4 rfl (lv_at hl 2 rfl) ?_
  refine lv_aload_n hx hb dX12_joins_5 rfl (lv_at hl 0 rfl) ?_
  refine mt_geti (C := RX12) (T := TX12) (N := 29) hx hb hts hinX12 hown hI hH mt_T147 rfl 8 (by decide) kw0 rfl rfl dX12_joins_6 ?_
  refine lv_icmp_ge (tgt := 123) hx hb dX12_joins_9 (by decide) (fun c6 => ?_) (fun c6 => ?_)
  · have hf := mt_ifT c6 hf
    refine lv_iload_n hx hb dX12_joins_123 rfl (lv_at hl 1 rfl) ?_
    obtain ⟨i1, i2⟩ := mt_so2 hf
    subst i1
    subst i2
    exact mt_iret hx hb hr hI hH hS hlocks dX12_joins_124
  · have hf := mt_ifF c6 hf
    refine lv_aload_n hx hb dX12_joins_12 rfl (lv_at hl 0 rfl) ?_
    refine lv_aload_n hx hb dX12_joins_13 rfl (lv_at hl 0 rfl) ?_
    refine mt_geti (C := RX12) (T := TX12) (N := 29) hx hb hts hinX12 hown hI hH mt_T147 rfl 11 (by decide) kw1 rfl rfl dX12_joins_14 ?_
    refine lv_iload_n hx hb dX12_joins_17 rfl (lv_at hl 2 rfl) ?_
    refine mt_b1I hf (fun r8 hg7 hf => ?_)
    refine mt_goi (mt_runV (i := 147) (As := [.int (M3 147 11), .int x2]) (rest := []) ⟨hx, hb, hml, hown, hts⟩ hI hH (c_X12_wantedBy l E (M3 147 11) x2 M3 u _ hg7) (cwV 2 hts gX12_joins_X12_wantedBy rfl rfl rfl (by decide +kernel) ⟨Nat.le_of_ble_eq_true rfl, Nat.le_of_ble_eq_true rfl⟩) mt_T147 rfl rfl hl.1 rfl (Nat.le_of_ble_eq_true rfl) dX12_joins_18 ⟨Nat.zero_le _, Nat.zero_le _⟩) hS (fun H locs hH hS => ?_)
    refine lv_istore_n (lv' := [(3, .int r8), (0, .ref (E.2.1 147)), (1, .int x1), (2, .int x2)]) hx hb dX12_joins_21 rfl hl (by decide) rfl (fun ls hl => ?_)
    refine lv_aload_n hx hb dX12_joins_22 rfl (lv_at hl 1 rfl) ?_
    refine lv_iload_n hx hb dX12_joins_23 rfl (lv_at hl 3 rfl) ?_
    refine mt_b1I hf (fun r10 hg9 hf => ?_)
    refine mt_goi (mt_runV (i := 147) (As := [.int x2]) (rest := []) ⟨hx, hb, hml, hown, hts⟩ hI hH (c_X12_later l E x2 M3 u _ hg9) (cwV 1 hts gX12_joins_X12_later rfl rfl rfl (by decide +kernel) ⟨Nat.le_of_ble_eq_true rfl, Nat.le_of_ble_eq_true rfl⟩) mt_T147 rfl rfl hl.1 rfl (Nat.le_of_ble_eq_true rfl) dX12_joins_24 ⟨Nat.zero_le _, Nat.zero_le _⟩) hS (fun H locs hH hS => ?_)
    refine lv_iconst (v := 1) hx hb dX12_joins_27 (by decide) ?_
    refine mt_jn1 hf (fun (v11 : Int32) => ∀ (H : Heap) (locs : List Loc) (ls : Array Slot), mt_H E M3 u H → va_S (mt_A E) s.heap H locs → lv_has ls 6 [(0, .ref (E.2.1 147)), (1, .int x1), (2, .int x2), (3, .int r8)] → W p l e (headSpec wsX12_joins ({ frames := 2, cells := 0, slots := 0, locals := 48 } : Room)).room s mid (([.ref (E.2.1 147)] : List Value).toArray) below meth c0 H locs 0 0 (MQ below (mt_Qi E r M' u) (([.ref (E.2.1 147)] : List Value).toArray) s 0 0 (mt_A E)) (F0 mid 49 ls [.int v11])) ?_ ?_
    · intro v11 hf H locs ls hH hS hl
      refine lv_istore (lv' := [(4, .int v11), (0, .ref (E.2.1 147)), (1, .int x1), (2, .int x2), (3, .int r8)]) hx hb dX12_joins_49 hl (by decide) rfl (fun ls hl => ?_)
      refine lv_iconst (v := 0) hx hb dX12_joins_51 (by decide) ?_
      refine lv_istore (lv' := [(5, .int (0 : Int32)), (4, .int v11), (0, .ref (E.2.1 147)), (1, .int x1), (2, .int x2), (3, .int r8)]) hx hb dX12_joins_52 hl (by decide) rfl (fun ls hl => ?_)
      refine mt_lpI3 hf (fun (x14 : Int32) (x15 : Int32) (M16 : mt_M) => ∀ (H : Heap) (locs : List Loc) (ls : Array Slot), mt_H E M16 u H → va_S (mt_A E) s.heap H locs → lv_has ls 6 [(0, .ref (E.2.1 147)), (1, .int x14), (2, .int x2), (3, .int r8), (4, .int v11), (5, .int x15)] → W p l e (headSpec wsX12_joins ({ frames := 2, cells := 0, slots := 0, locals := 48 } : Room)).room s mid (([.ref (E.2.1 147)] : List Value).toArray) below meth c0 H locs 0 0 (MQ below (mt_Qi E r M' u) (([.ref (E.2.1 147)] : List Value).toArray) s 0 0 (mt_A E)) (F0 mid 54 ls [])) ?_ _ _ _ hH hS (lv_sub hl [2, 3, 4, 5, 1, 0] rfl)
      intro k17 ih18 x14 x15 M16 hf H locs ls hH hS hl
      refine lv_iload hx hb dX12_joins_54 (lv_at hl 5 rfl) ?_
      refine lv_iconst (v := 2) hx hb dX12_joins_56 (by decide) ?_
      refine lv_icmp_ge (tgt := 117) hx hb dX12_joins_57 (by decide) (fun c19 => ?_) (fun c19 => ?_)
      · have hf := mt_ifT c19 hf
        refine mt_ltI hf (fun x20 ex20 hf => ?_)
        refine lv_iinc (v := x20) (lv' := [(2, .int x20), (0, .ref (E.2.1 147)), (1, .int x14), (3, .int r8), (4, .int v11), (5, .int x15)]) hx hb dX12_joins_117 hl (k := 2) rfl (by rw [ex20]; rfl) (by decide) rfl (fun ls hl => ?_)
        refine lv_goto (tgt := 4) hx hb dX12_joins_120 (by decide) ?_
        exact ih5 x14 x20 M16 hf _ _ _ hH hS (lv_sub hl [1, 2, 0] rfl)
      · have hf := mt_ifF c19 hf
        refine lv_iload_n hx hb dX12_joins_60 rfl (lv_at hl 1 rfl) ?_
        refine lv_aload_n hx hb dX12_joins_61 rfl (lv_at hl 0 rfl) ?_
        refine mt_getr (C := RX12) (T := TX12) (N := 29) hx hb hts hinX12 hown hI hH mt_T147 rfl 5 (by decide) kw2 rfl rfl dX12_joins_62 ?_
        refine lv_bipush (v := 7) hx hb dX12_joins_65 (by decide) ?_
        refine lv_iload hx hb dX12_joins_67 (lv_at hl 5 rfl) ?_
        refine lv_imul hx hb dX12_joins_69 ?_
        refine lv_iload_n hx hb dX12_joins_70 rfl (lv_at hl 2 rfl) ?_
        refine lv_iadd hx hb dX12_joins_71 ?_
        refine mt_ciI hf (fun q21 hf => ?_)
        refine mt_iald hx hb hI hH mt_T153 q21 dX12_joins_72 ?_
        refine lv_iload_n hx hb dX12_joins_73 rfl (lv_at hl 3 rfl) ?_
        refine mt_jn1 hf (fun (v22 : Int32) => ∀ (H : Heap) (locs : List Loc) (ls : Array Slot), mt_H E M16 u H → va_S (mt_A E) s.heap H locs → lv_has ls 6 [(0, .ref (E.2.1 147)), (2, .int x2), (3, .int r8), (4, .int v11), (5, .int x15)] → W p l e (headSpec wsX12_joins ({ frames := 2, cells := 0, slots := 0, locals := 48 } : Room)).room s mid (([.ref (E.2.1 147)] : List Value).toArray) below meth c0 H locs 0 0 (MQ below (mt_Qi E r M' u) (([.ref (E.2.1 147)] : List Value).toArray) s 0 0 (mt_A E)) (F0 mid 82 ls [.int v22, .int x14])) ?_ ?_
        · intro v22 hf H locs ls hH hS hl
          refine lv_iadd hx hb dX12_joins_82 ?_
          refine mt_lti hf (fun x25 ex25 hf => ?_)
          refine lv_istore_n (lv' := [(1, .int x25), (0, .ref (E.2.1 147)), (2, .int x2), (3, .int r8), (4, .int v11), (5, .int x15)]) hx hb dX12_joins_83 rfl hl (by decide) rfl (fun ls hl => ?_)
          refine lv_aload_n hx hb dX12_joins_84 rfl (lv_at hl 1 rfl) ?_
          refine mt_getr (C := RX12) (T := TX12) (N := 29) hx hb hts hinX12 hown hI hH mt_T147 rfl 5 (by decide) kw2 rfl rfl dX12_joins_85 ?_
          refine lv_bipush (v := 7) hx hb dX12_joins_88 (by decide) ?_
          refine lv_iload hx hb dX12_joins_90 (lv_at hl 5 rfl) ?_
          refine lv_imul hx hb dX12_joins_92 ?_
          refine lv_iload_n hx hb dX12_joins_93 rfl (lv_at hl 2 rfl) ?_
          refine lv_iadd hx hb dX12_joins_94 ?_
          refine lv_iload_n hx hb dX12_joins_95 rfl (lv_at hl 3 rfl) ?_
          refine mt_ciI hf (fun q27 hf => ?_)
          refine mt_iast hx hb hI hH hS mt_T153 q27 dX12_joins_96 (fun H locs hH hS => ?_)
          refine mt_ltI hf (fun M26 eM26 hf => ?_)
          rw [← eM26] at hH
          refine lv_aload_n hx hb dX12_joins_97 rfl (lv_at hl 1 rfl) ?_
          refine mt_getr (C := RX12) (T := TX12) (N := 29) hx hb hts hinX12 hown hI hH mt_T147 rfl 6 (by decide) kw3 rfl rfl dX12_joins_98 ?_
          refine lv_bipush (v := 7) hx hb dX12_joins_101 (by decide) ?_
          refine lv_iload hx hb dX12_joins_103 (lv_at hl 5 rfl) ?_
          refine lv_imul hx hb dX12_joins_105 ?_
          refine lv_iload_n hx hb dX12_joins_106 rfl (lv_at hl 2 rfl) ?_
          refine lv_iadd hx hb dX12_joins_107 ?_
          refine lv_iload hx hb dX12_joins_108 (lv_at hl 4 rfl) ?_
          refine mt_ciI hf (fun q29 hf => ?_)
          refine mt_iast hx hb hI hH hS mt_T154 q29 dX12_joins_110 (fun H locs hH hS => ?_)
          refine mt_ltI hf (fun M28 eM28 hf => ?_)
          rw [← eM28] at hH
          refine mt_ltI hf (fun x30 ex30 hf => ?_)
          refine lv_iinc (v := x30) (lv' := [(5, .int x30), (1, .int x25), (0, .ref (E.2.1 147)), (2, .int x2), (3, .int r8), (4, .int v11)]) hx hb dX12_joins_111 hl (k := 5) rfl (by rw [ex30]; rfl) (by decide) rfl (fun ls hl => ?_)
          refine lv_goto (tgt := 54) hx hb dX12_joins_114 (by decide) ?_
          exact ih18 x25 x30 M28 hf _ _ _ hH hS (lv_sub hl [2, 1, 3, 4, 5, 0] rfl)
        · intro j23 hj24 hf
          refine lv_icmp_ne (tgt := 81) hx hb dX12_joins_74 (by decide) (fun c31 => ?_) (fun c31 => ?_)
          · have hf := mt_ifF c31 hf
            refine lv_iconst (v := 1) hx hb dX12_joins_81 (by decide) ?_
            exact hj24 (1 : Int32) hf _ _ _ hH hS (lv_sub hl [0, 2, 3, 4, 5] rfl)
          · have hf := mt_ifT c31 hf
            refine lv_iconst (v := 0) hx hb dX12_joins_77 (by decide) ?_
            refine lv_goto (tgt := 82) hx hb dX12_joins_78 (by decide) ?_
            exact hj24 (0 : Int32) hf _ _ _ hH hS (lv_sub hl [0, 2, 3, 4, 5] rfl)
    · intro j12 hj13 hf
      refine lv_icmp_ne (tgt := 43) hx hb dX12_joins_28 (by decide) (fun c32 => ?_) (fun c32 => ?_)
      · have hf := mt_ifF c32 hf
        refine lv_aload_n hx hb dX12_joins_43 rfl (lv_at hl 1 rfl) ?_
        refine mt_getr (C := RX12) (T := TX12) (N := 29) hx hb hts hinX12 hown hI hH mt_T147 rfl 6 (by decide) kw3 rfl rfl dX12_joins_44 ?_
        refine lv_iload_n hx hb dX12_joins_47 rfl (lv_at hl 3 rfl) ?_
        refine mt_ciI hf (fun q33 hf => ?_)
        refine mt_iald hx hb hI hH mt_T154 q33 dX12_joins_48 ?_
        exact hj13 (M3 154 x2.toNatClampNeg) hf _ _ _ hH hS (lv_sub hl [1, 2, 3, 0] rfl)
      · have hf := mt_ifT c32 hf
        refine lv_aload_n hx hb dX12_joins_31 rfl (lv_at hl 1 rfl) ?_
        refine mt_getr (C := RX12) (T := TX12) (N := 29) hx hb hts hinX12 hown hI hH mt_T147 rfl 6 (by decide) kw3 rfl rfl dX12_joins_32 ?_
        refine lv_bipush (v := 7) hx hb dX12_joins_35 (by decide) ?_
        refine lv_iload_n hx hb dX12_joins_37 rfl (lv_at hl 3 rfl) ?_
        refine lv_iadd hx hb dX12_joins_38 ?_
        refine mt_ciI hf (fun q34 hf => ?_)
        refine mt_iald hx hb hI hH mt_T154 q34 dX12_joins_39 ?_
        refine lv_goto (tgt := 49) hx hb dX12_joins_40 (by decide) ?_
        exact hj13 (M3 154 ((7 : Int32) + x2).toNatClampNeg) hf _ _ _ hH hS (lv_sub hl [1, 2, 3, 0] rfl)
set_option maxHeartbeats 4000000 in
set_option maxRecDepth 100000 in
theorem c_X12_comes (l : Launch) (E : mt_E) (a1 : Int32) (M : mt_M) (u : mt_U) (r : Int32) (M' : mt_M) (hf : f_X12_comes a1 M = some (r, M')) : Met l yX12_comes wsX12_comes ({ frames := 4, cells := 0, slots := 0, locals := 89 } : Room) (mt_P E [.ref (E.2.1 147), .int a1] M u) (mt_Qi E r M' u) 0 0 (mt_A E) := by
  refine Met.ofW (cc := cX12_comes) (maxL := 4) (ret := (some .boolean)) (by decide) rfl ?_
  intro p e s mid args below meth c0 s₁ B hml hv
  obtain ⟨rfl, hI, hH⟩ := hv
  have hx := B.exec
  have hb := B.bytes
  have hr := B.returns
  have hts := atoms_spec (ws := wsX12_comes) B.pre
  have hown : s.vm.findClass RX12 = some mid.cls := findClass_of_methodNamed B.named
  have hlocks := B.notSynchronized
  have hS : va_S (mt_A E) s.heap s.heap [] := va_S.rf
  have hl := lv_entry ([.ref (E.2.1 147), .int a1]) (n := 4) (Nat.le_of_ble_eq_true rfl)
  rw [lg_entry_eq]
  generalize (lg_sl ([.ref (E.2.1 147), .int a1]) ++ List.replicate (4 - (lg_sl ([.ref (E.2.1 147), .int a1])).length) Slot.unset).toArray = ls at hl ⊢
  have hl : lv_has ls 4 [(0, .ref (E.2.1 147)), (1, .int a1)] := hl
  unfold f_X12_comes at hf
  have kw0 := hts (.fieldLink RX12 43 "MilkTwiceModel" "told" "[I") (List.mem_of_getElem? (i := 1) rfl)
  have kw1 := hts (.fieldLink RX12 37 "MilkTwiceModel" "letter" "[I") (List.mem_of_getElem? (i := 2) rfl)
  have kw2 := hts (.fieldLink RX12 133 "MilkTwiceModel" "rule" "I") (List.mem_of_getElem? (i := 4) rfl)
  have kw3 := hts (.fieldLink RX12 22 "MilkTwiceModel" "stocked" "[I") (List.mem_of_getElem? (i := 5) rfl)
  have kw4 := hts (.fieldLink RX12 59 "MilkTwiceModel" "things" "I") (List.mem_of_getElem? (i := 3) rfl)
  have hinX12 : ∀ w ∈ u_ws RX12 TX12 29, w ∈ wsX12_comes := fun w h => List.mem_cons_of_mem _ (List.mem_append_right _ h)
  refine lv_aload_n hx hb dX12_comes_0 rfl (lv_at hl 0 rfl) ?_
  refine mt_getr (C := RX12) (T := TX12) (N := 29) hx hb hts hinX12 hown hI hH mt_T147 rfl 15 (by decide) kw0 rfl rfl dX12_comes_1 ?_
  refine lv_iconst (v := 3) hx hb dX12_comes_4 (by decide) ?_
  refine lv_iload_n hx hb dX12_comes_5 rfl (lv_at hl 1 rfl) ?_
  refine lv_imul hx hb dX12_comes_6 ?_
  refine mt_ciI hf (fun q1 hf => ?_)
  refine mt_iald hx hb hI hH mt_T159 q1 dX12_comes_7 ?_
  refine mt_lti hf (fun x2 ex2 hf => ?_)
  refine lv_istore_n (lv' := [(2, .int x2), (0, .ref (E.2.1 147)), (1, .int a1)]) hx hb dX12_comes_8 rfl hl (by decide) rfl (fun ls hl => ?_)
  refine lv_aload_n hx hb dX12_comes_9 rfl (lv_at hl 1 rfl) ?_
  refine mt_getr (C := RX12) (T := TX12) (N := 29) hx hb hts hinX12 hown hI hH mt_T147 rfl 15 (by decide) kw0 rfl rfl dX12_comes_10 ?_
  refine lv_iconst (v := 3) hx hb dX12_comes_13 (by decide) ?_
  refine lv_iload_n hx hb dX12_comes_14 rfl (lv_at hl 2 rfl) ?_
  refine lv_imul hx hb dX12_comes_15 ?_
  refine lv_iconst (v := 1) hx hb dX12_comes_16 (by decide) ?_
  refine lv_iadd hx hb dX12_comes_17 ?_
  refine mt_ciI hf (fun q3 hf => ?_)
  refine mt_iald hx hb hI hH mt_T159 q3 dX12_comes_18 ?_
  refine mt_lti hf (fun x4 ex4 hf => ?_)
  refine lv_istore_n (lv' := [(3, .int x4), (2, .int x2), (0, .ref (E.2.1 147)), (1, .int a1)]) hx hb dX12_comes_19 rfl hl (by decide) rfl (fun ls hl => ?_)
  refine lv_aload_n hx hb dX12_comes_20 rfl (lv_at hl 2 rfl) ?_
  refine mt_getr (C := RX12) (T := TX12) (N := 29) hx hb hts hinX12 hown hI hH mt_T147 rfl 13 (by decide) kw1 rfl rfl dX12_comes_21 ?_
  refine lv_iload_n hx hb dX12_comes_24 rfl (lv_at hl 3 rfl) ?_
  refine mt_ciI hf (fun q5 hf => ?_)
  refine mt_iald hx hb hI hH mt_T157 q5 dX12_comes_25 ?_
  refine mt_lti hf (fun x6 ex6 hf => ?_)
  by_cases c7 : x6 = (100 : Int32)
  · have hf := mt_ifT c7 hf
    refine lv_lookup (off := 107) (tgt := 133) hx hb dX12_comes_26 (by decide) (by rw [c7]; rfl) (by decide) ?_
    refine lv_aload_n hx hb dX12_comes_133 rfl (lv_at hl 2 rfl) ?_
    refine lv_iload_n hx hb dX12_comes_134 rfl (lv_at hl 1 rfl) ?_
    refine mt_b2I hf (fun r9 M10 hg8 hf => ?_)
    refine mt_goi (mt_runV (i := 147) (As := [.int x2]) (rest := []) ⟨hx, hb, hml, hown, hts⟩ hI hH (c_X12_comesDays l E x2 M u _ _ hg8) (cwV 1 hts gX12_comes_X12_comesDays rfl rfl rfl (by decide +kernel) ⟨Nat.le_of_ble_eq_true rfl, Nat.le_of_ble_eq_true rfl⟩) mt_T147 rfl rfl hl.1 rfl (Nat.le_of_ble_eq_true rfl) dX12_comes_135 ⟨Nat.zero_le _, Nat.zero_le _⟩) hS (fun H locs hH hS => ?_)
    refine mt_ckI hf (fun q11 hf => ?_)
    obtain ⟨i1, i2⟩ := mt_so2 hf
    subst i1
    subst i2
    exact mt_zret hx hb hr hI hH hS q11 hlocks dX12_comes_138
  · have hf := mt_ifF c7 hf
    by_cases c12 : x6 = (106 : Int32)
    · have hf := mt_ifT c12 hf
      refine lv_lookup (off := 84) (tgt := 110) hx hb dX12_comes_26 (by decide) (by rw [c12]; rfl) (by decide) ?_
      refine lv_aload_n hx hb dX12_comes_110 rfl (lv_at hl 2 rfl) ?_
      refine mt_b2I hf (fun r14 M15 hg13 hf => ?_)
      refine mt_goi (mt_runV (i := 147) (As := []) (rest := []) ⟨hx, hb, hml, hown, hts⟩ hI hH (c_X12_joins l E M u _ _ hg13) (cwV 0 hts gX12_comes_X12_joins rfl rfl rfl (by decide +kernel) ⟨Nat.le_of_ble_eq_true rfl, Nat.le_of_ble_eq_true rfl⟩) mt_T147 rfl rfl hl.1 rfl (Nat.le_of_ble_eq_true rfl) dX12_comes_111 ⟨Nat.zero_le _, Nat.zero_le _⟩) hS (fun H locs hH hS => ?_)
      refine lv_pop hx hb dX12_comes_114 rfl ?_
      refine lv_iconst (v := 1) hx hb dX12_comes_115 (by decide) ?_
      obtain ⟨i1, i2⟩ := mt_so2 hf
      subst i1
      subst i2
      exact mt_zret hx hb hr hI hH hS (by decide) hlocks dX12_comes_116
    · have hf := mt_ifF c12 hf
      by_cases c16 : x6 = (114 : Int32)
      · have hf := mt_ifT c16 hf
        refine lv_lookup (off := 91) (tgt := 117) hx hb dX12_comes_26 (by decide) (by rw [c16]; rfl) (by decide) ?_
        refine lv_aload_n hx hb dX12_comes_117 rfl (lv_at hl 2 rfl) ?_
        refine lv_iload_n hx hb dX12_comes_118 rfl (lv_at hl 1 rfl) ?_
        refine mt_puti (ty := .int) (C := RX12) (T := TX12) (N := 29) hx hb hts hinX12 tyX12 tyX12_ok nmX12 hown hI hH hS mt_T147 rfl 11 (by decide) kw2 rfl rfl (by decide +kernel) rfl rfl rfl dX12_comes_119 (fun H locs hH hS => ?_)
        refine mt_ltI hf (fun M17 eM17 hf => ?_)
        rw [← eM17] at hH
        refine lv_iload_n hx hb dX12_comes_122 rfl (lv_at hl 1 rfl) ?_
        refine lv_iconst (v := 4) hx hb dX12_comes_123 (by decide) ?_
        refine lv_icmp_ge (tgt := 131) hx hb dX12_comes_124 (by decide) (fun c18 => ?_) (fun c18 => ?_)
        · have hf := mt_ifT c18 hf
          refine lv_iconst (v := 0) hx hb dX12_comes_131 (by decide) ?_
          obtain ⟨i1, i2⟩ := mt_so2 hf
          subst i1
          subst i2
          exact mt_zret hx hb hr hI hH hS (by decide) hlocks dX12_comes_132
        · have hf := mt_ifF c18 hf
          refine lv_iconst (v := 1) hx hb dX12_comes_127 (by decide) ?_
          refine lv_goto (tgt := 132) hx hb dX12_comes_128 (by decide) ?_
          obtain ⟨i1, i2⟩ := mt_so2 hf
          subst i1
          subst i2
          exact mt_zret hx hb hr hI hH hS (by decide) hlocks dX12_comes_132
      · have hf := mt_ifF c16 hf
        by_cases c19 : x6 = (115 : Int32)
        · have hf := mt_ifT c19 hf
          refine lv_lookup (off := 113) (tgt := 139) hx hb dX12_comes_26 (by decide) (by rw [c19]; rfl) (by decide) ?_
          refine lv_aload_n hx hb dX12_comes_139 rfl (lv_at hl 2 rfl) ?_
          refine lv_iload_n hx hb dX12_comes_140 rfl (lv_at hl 1 rfl) ?_
          refine mt_b1I hf (fun r21 hg20 hf => ?_)
          refine mt_goi (mt_runV (i := 147) (As := [.int x2]) (rest := []) ⟨hx, hb, hml, hown, hts⟩ hI hH (c_X12_isThing l E x2 M u _ hg20) (cwV 1 hts gX12_comes_X12_isThing rfl rfl rfl (by decide +kernel) ⟨Nat.le_of_ble_eq_true rfl, Nat.le_of_ble_eq_true rfl⟩) mt_T147 rfl rfl hl.1 rfl (Nat.le_of_ble_eq_true rfl) dX12_comes_141 ⟨Nat.zero_le _, Nat.zero_le _⟩) hS (fun H locs hH hS => ?_)
          refine lv_if_ne (tgt := 149) hx hb dX12_comes_144 (by decide) (fun c22 => ?_) (fun c22 => ?_)
          · have hf := mt_ifF c22 hf
            refine lv_aload_n hx hb dX12_comes_149 rfl (lv_at hl 2 rfl) ?_
            refine mt_getr (C := RX12) (T := TX12) (N := 29) hx hb hts hinX12 hown hI hH mt_T147 rfl 4 (by decide) kw3 rfl rfl dX12_comes_150 ?_
            refine lv_iload_n hx hb dX12_comes_153 rfl (lv_at hl 1 rfl) ?_
            refine lv_iload_n hx hb dX12_comes_154 rfl (lv_at hl 0 rfl) ?_
            refine mt_ciI hf (fun q24 hf => ?_)
            refine mt_iast hx hb hI hH hS mt_T152 q24 dX12_comes_155 (fun H locs hH hS => ?_)
            refine mt_ltI hf (fun M23 eM23 hf => ?_)
            rw [← eM23] at hH
            refine lv_iconst (v := 1) hx hb dX12_comes_156 (by decide) ?_
            obtain ⟨i1, i2⟩ := mt_so2 hf
            subst i1
            subst i2
            exact mt_zret hx hb hr hI hH hS (by decide) hlocks dX12_comes_157
          · have hf := mt_ifT c22 hf
            refine lv_iconst (v := 0) hx hb dX12_comes_147 (by decide) ?_
            obtain ⟨i1, i2⟩ := mt_so2 hf
            subst i1
            subst i2
            exact mt_zret hx hb hr hI hH hS (by decide) hlocks dX12_comes_148
        · have hf := mt_ifF c19 hf
          by_cases c25 : x6 = (116 : Int32)
          · have hf := mt_ifT c25 hf
            refine lv_lookup (off := 50) (tgt := 76) hx hb dX12_comes_26 (by decide) (by rw [c25]; rfl) (by decide) ?_
            refine lv_iload_n hx hb dX12_comes_76 rfl (lv_at hl 1 rfl) ?_
            refine lv_iconst (v := 5) hx hb dX12_comes_77 (by decide) ?_
            refine lv_icmp_gt (tgt := 90) hx hb dX12_comes_78 (by decide) (fun c26 => ?_) (fun c26 => ?_)
            · have hf := mt_ifT c26 hf
              refine lv_iconst (v := 0) hx hb dX12_comes_90 (by decide) ?_
              obtain ⟨i1, i2⟩ := mt_so2 hf
              subst i1
              subst i2
              exact mt_zret hx hb hr hI hH hS (by decide) hlocks dX12_comes_91
            · have hf := mt_ifF c26 hf
              refine lv_aload_n hx hb dX12_comes_81 rfl (lv_at hl 2 rfl) ?_
              refine mt_geti (C := RX12) (T := TX12) (N := 29) hx hb hts hinX12 hown hI hH mt_T147 rfl 8 (by decide) kw4 rfl rfl dX12_comes_82 ?_
              refine lv_bipush (v := 7) hx hb dX12_comes_85 (by decide) ?_
              refine lv_icmp_ne (tgt := 92) hx hb dX12_comes_87 (by decide) (fun c27 => ?_) (fun c27 => ?_)
              · have hf := mt_ifF c27 hf
                refine lv_aload_n hx hb dX12_comes_92 rfl (lv_at hl 2 rfl) ?_
                refine lv_iload_n hx hb dX12_comes_93 rfl (lv_at hl 1 rfl) ?_
                refine lv_iload_n hx hb dX12_comes_94 rfl (lv_at hl 0 rfl) ?_
                refine lv_aload_n hx hb dX12_comes_95 rfl (lv_at hl 2 rfl) ?_
                refine mt_getr (C := RX12) (T := TX12) (N := 29) hx hb hts hinX12 hown hI hH mt_T147 rfl 15 (by decide) kw0 rfl rfl dX12_comes_96 ?_
                refine lv_iconst (v := 3) hx hb dX12_comes_99 (by decide) ?_
                refine lv_iload_n hx hb dX12_comes_100 rfl (lv_at hl 3 rfl) ?_
                refine lv_imul hx hb dX12_comes_101 ?_
                refine lv_iconst (v := 2) hx hb dX12_comes_102 (by decide) ?_
                refine lv_iadd hx hb dX12_comes_103 ?_
                refine mt_ciI hf (fun q28 hf => ?_)
                refine mt_iald hx hb hI hH mt_T159 q28 dX12_comes_104 ?_
                refine mt_b1I hf (fun M30 hg29 hf => ?_)
                refine mt_gov (mt_runV (i := 147) (As := [.int x2, .int x4, .int (M 159 (((3 : Int32) * a1) + (2 : Int32)).toNatClampNeg)]) (rest := []) ⟨hx, hb, hml, hown, hts⟩ hI hH (c_X12_adds l E x2 x4 (M 159 (((3 : Int32) * a1) + (2 : Int32)).toNatClampNeg) M u _ hg29) (cwV 3 hts gX12_comes_X12_adds rfl rfl rfl (by decide +kernel) ⟨Nat.le_of_ble_eq_true rfl, Nat.le_of_ble_eq_true rfl⟩) mt_T147 rfl rfl hl.1 rfl (Nat.le_of_ble_eq_true rfl) dX12_comes_105 ⟨Nat.zero_le _, Nat.zero_le _⟩) hS (fun H locs hH hS => ?_)
                refine lv_iconst (v := 1) hx hb dX12_comes_108 (by decide) ?_
                obtain ⟨i1, i2⟩ := mt_so2 hf
                subst i1
                subst i2
                exact mt_zret hx hb hr hI hH hS (by decide) hlocks dX12_comes_109
              · have hf := mt_ifT c27 hf
                refine lv_iconst (v := 0) hx hb dX12_comes_90 (by decide) ?_
                obtain ⟨i1, i2⟩ := mt_so2 hf
                subst i1
                subst i2
                exact mt_zret hx hb hr hI hH hS (by decide) hlocks dX12_comes_91
          · have hf := mt_ifF c25 hf
            refine lv_lookup (off := 132) (tgt := 158) hx hb dX12_comes_26 (by decide) (by have e90 := mt_ne (k := 100) (by decide) c7; have e91 := mt_ne (k := 106) (by decide) c12; have e92 := mt_ne (k := 114) (by decide) c16; have e93 := mt_ne (k := 115) (by decide) c19; have e94 := mt_ne (k := 116) (by decide) c25; simp [Op.lookupswitch.offset, e90, e91, e92, e93, e94]) (by decide) ?_
            refine lv_aload_n hx hb dX12_comes_158 rfl (lv_at hl 2 rfl) ?_
            refine lv_aload_n hx hb dX12_comes_159 rfl (lv_at hl 2 rfl) ?_
            refine mt_getr (C := RX12) (T := TX12) (N := 29) hx hb hts hinX12 hown hI hH mt_T147 rfl 13 (by decide) kw1 rfl rfl dX12_comes_160 ?_
            refine lv_iload_n hx hb dX12_comes_163 rfl (lv_at hl 3 rfl) ?_
            refine mt_ciI hf (fun q31 hf => ?_)
            refine mt_iald hx hb hI hH mt_T157 q31 dX12_comes_164 ?_
            refine lv_iload_n hx hb dX12_comes_165 rfl (lv_at hl 1 rfl) ?_
            refine lv_iload_n hx hb dX12_comes_166 rfl (lv_at hl 0 rfl) ?_
            refine mt_b2I hf (fun r33 M34 hg32 hf => ?_)
            refine mt_goi (mt_runV (i := 147) (As := [.int (M 157 a1.toNatClampNeg), .int x2, .int x4]) (rest := []) ⟨hx, hb, hml, hown, hts⟩ hI hH (c_X12_comesLine l E (M 157 a1.toNatClampNeg) x2 x4 M u _ _ hg32) (cwV 3 hts gX12_comes_X12_comesLine rfl rfl rfl (by decide +kernel) ⟨Nat.le_of_ble_eq_true rfl, Nat.le_of_ble_eq_true rfl⟩) mt_T147 rfl rfl hl.1 rfl (Nat.le_of_ble_eq_true rfl) dX12_comes_167 ⟨Nat.zero_le _, Nat.zero_le _⟩) hS (fun H locs hH hS => ?_)
            refine mt_ckI hf (fun q35 hf => ?_)
            obtain ⟨i1, i2⟩ := mt_so2 hf
            subst i1
            subst i2
            exact mt_zret hx hb hr hI hH hS q35 hlocks dX12_comes_170
set_option maxHeartbeats 4000000 in
set_option maxRecDepth 100000 in
theorem c_X12_passes (l : Launch) (E : mt_E) (o1 n1 : Nat) (hT1 : mt_T o1 = (0, n1, [])) (M : mt_M) (u : mt_U) (M' : mt_M) (hf : f_X12_passes o1 n1 M = some (M')) : Met l yX12_passes wsX12_passes ({ frames := 0, cells := 0, slots := 0, locals := 0 } : Room) (mt_P E [.ref (E.2.1 147), .ref (E.2.1 o1)] M u) (mt_Qv E M' u) 0 0 (mt_A E) := by
  refine Met.ofW (cc := cX12_passes) (maxL := 3) (ret := none) (by decide) rfl ?_
  intro p e s mid args below meth c0 s₁ B hml hv
  obtain ⟨rfl, hI, hH⟩ := hv
  have hx := B.exec
  have hb := B.bytes
  have hr := B.returns
  have hts := atoms_spec (ws := wsX12_passes) B.pre
  have hown : s.vm.findClass RX12 = some mid.cls := findClass_of_methodNamed B.named
  have hlocks := B.notSynchronized
  have hS : va_S (mt_A E) s.heap s.heap [] := va_S.rf
  have hl := lv_entry ([.ref (E.2.1 147), .ref (E.2.1 o1)]) (n := 3) (Nat.le_of_ble_eq_true rfl)
  rw [lg_entry_eq]
  generalize (lg_sl ([.ref (E.2.1 147), .ref (E.2.1 o1)]) ++ List.replicate (3 - (lg_sl ([.ref (E.2.1 147), .ref (E.2.1 o1)])).length) Slot.unset).toArray = ls at hl ⊢
  have hl : lv_has ls 3 [(0, .ref (E.2.1 147)), (1, .ref (E.2.1 o1))] := hl
  unfold f_X12_passes at hf
  have kw0 := hts (.fieldLink RX12 156 "MilkTwiceModel" "isKeeping" "Z") (List.mem_of_getElem? (i := 1) rfl)
  have kw1 := hts (.fieldLink RX12 160 "MilkTwiceModel" "cursor" "I") (List.mem_of_getElem? (i := 3) rfl)
  have kw2 := hts (.fieldLink RX12 46 "MilkTwiceModel" "kept" "[I") (List.mem_of_getElem? (i := 2) rfl)
  have hinX12 : ∀ w ∈ u_ws RX12 TX12 29, w ∈ wsX12_passes := fun w h => List.mem_cons_of_mem _ (List.mem_append_right _ h)
  refine lv_iconst (v := 0) hx hb dX12_passes_0 (by decide) ?_
  refine lv_istore_n (lv' := [(2, .int (0 : Int32)), (0, .ref (E.2.1 147)), (1, .ref (E.2.1 o1))]) hx hb dX12_passes_1 rfl hl (by decide) rfl (fun ls hl => ?_)
  refine mt_lpI2 hf (fun (x1 : Int32) (M2 : mt_M) => ∀ (H : Heap) (locs : List Loc) (ls : Array Slot), mt_H E M2 u H → va_S (mt_A E) s.heap H locs → lv_has ls 3 [(0, .ref (E.2.1 147)), (1, .ref (E.2.1 o1)), (2, .int x1)] → W p l e (headSpec wsX12_passes ({ frames := 0, cells := 0, slots := 0, locals := 0 } : Room)).room s mid (([.ref (E.2.1 147), .ref (E.2.1 o1)] : List Value).toArray) below meth c0 H locs 0 0 (MQ below (mt_Qv E M' u) (([.ref (E.2.1 147), .ref (E.2.1 o1)] : List Value).toArray) s 0 0 (mt_A E)) (F0 mid 2 ls [])) ?_ _ _ _ hH hS (lv_sub hl [1, 2, 0] rfl)
  intro k3 ih4 x1 M2 hf H locs ls hH hS hl
  refine lv_iload_n hx hb dX12_passes_2 rfl (lv_at hl 2 rfl) ?_
  refine lv_aload_n hx hb dX12_passes_3 rfl (lv_at hl 1 rfl) ?_
  refine mt_alen hx hb hI hH hT1 dX12_passes_4 ?_
  refine lv_icmp_ge (tgt := 58) hx hb dX12_passes_5 (by decide) (fun c5 => ?_) (fun c5 => ?_)
  · have hf := mt_ifT c5 hf
    have i1 := mt_so1 hf
    subst i1
    exact mt_vret hx hb hr hI hH hS hlocks dX12_passes_58
  · have hf := mt_ifF c5 hf
    refine lv_aload_n hx hb dX12_passes_8 rfl (lv_at hl 0 rfl) ?_
    refine mt_geti (C := RX12) (T := TX12) (N := 29) hx hb hts hinX12 hown hI hH mt_T147 rfl 21 (by decide) kw0 rfl rfl dX12_passes_9 ?_
    refine mt_jn1 hf (fun (M6 : mt_M) => ∀ (H : Heap) (locs : List Loc) (ls : Array Slot), mt_H E M6 u H → va_S (mt_A E) s.heap H locs → lv_has ls 3 [(0, .ref (E.2.1 147)), (1, .ref (E.2.1 o1)), (2, .int x1)] → W p l e (headSpec wsX12_passes ({ frames := 0, cells := 0, slots := 0, locals := 0 } : Room)).room s mid (([.ref (E.2.1 147), .ref (E.2.1 o1)] : List Value).toArray) below meth c0 H locs 0 0 (MQ below (mt_Qv E M' u) (([.ref (E.2.1 147), .ref (E.2.1 o1)] : List Value).toArray) s 0 0 (mt_A E)) (F0 mid 42 ls [])) ?_ ?_
    · intro M6 hf H locs ls hH hS hl
      refine lv_aload_n hx hb dX12_passes_42 rfl (lv_at hl 0 rfl) ?_
      refine lv_dup hx hb dX12_passes_43 rfl ?_
      refine mt_geti (C := RX12) (T := TX12) (N := 29) hx hb hts hinX12 hown hI hH mt_T147 rfl 22 (by decide) kw1 rfl rfl dX12_passes_44 ?_
      refine lv_iconst (v := 1) hx hb dX12_passes_47 (by decide) ?_
      refine lv_iadd hx hb dX12_passes_48 ?_
      refine mt_puti (ty := .int) (C := RX12) (T := TX12) (N := 29) hx hb hts hinX12 tyX12 tyX12_ok nmX12 hown hI hH hS mt_T147 rfl 22 (by decide) kw1 rfl rfl (by decide +kernel) rfl rfl rfl dX12_passes_49 (fun H locs hH hS => ?_)
      refine mt_ltI hf (fun M9 eM9 hf => ?_)
      rw [← eM9] at hH
      refine mt_ltI hf (fun x10 ex10 hf => ?_)
      refine lv_iinc (v := x10) (lv' := [(2, .int x10), (0, .ref (E.2.1 147)), (1, .ref (E.2.1 o1))]) hx hb dX12_passes_52 hl (k := 2) rfl (by rw [ex10]; rfl) (by decide) rfl (fun ls hl => ?_)
      refine lv_goto (tgt := 2) hx hb dX12_passes_55 (by decide) ?_
      exact ih4 x10 M9 hf _ _ _ hH hS (lv_sub hl [1, 2, 0] rfl)
    · intro j7 hj8 hf
      refine lv_if_eq (tgt := 30) hx hb dX12_passes_12 (by decide) (fun c11 => ?_) (fun c11 => ?_)
      · have hf := mt_ifT c11 hf
        refine lv_aload_n hx hb dX12_passes_30 rfl (lv_at hl 1 rfl) ?_
        refine lv_iload_n hx hb dX12_passes_31 rfl (lv_at hl 2 rfl) ?_
        refine lv_aload_n hx hb dX12_passes_32 rfl (lv_at hl 0 rfl) ?_
        refine mt_getr (C := RX12) (T := TX12) (N := 29) hx hb hts hinX12 hown hI hH mt_T147 rfl 19 (by decide) kw2 rfl rfl dX12_passes_33 ?_
        refine lv_aload_n hx hb dX12_passes_36 rfl (lv_at hl 0 rfl) ?_
        refine mt_geti (C := RX12) (T := TX12) (N := 29) hx hb hts hinX12 hown hI hH mt_T147 rfl 22 (by decide) kw1 rfl rfl dX12_passes_37 ?_
        refine mt_ciI hf (fun q12 hf => ?_)
        refine mt_iald hx hb hI hH mt_T160 q12 dX12_passes_40 ?_
        refine mt_ciI hf (fun q14 hf => ?_)
        refine mt_iast hx hb hI hH hS hT1 q14 dX12_passes_41 (fun H locs hH hS => ?_)
        refine mt_ltI hf (fun M13 eM13 hf => ?_)
        rw [← eM13] at hH
        exact hj8 M13 hf _ _ _ hH hS (lv_sub hl [0, 1, 2] rfl)
      · have hf := mt_ifF c11 hf
        refine lv_aload_n hx hb dX12_passes_15 rfl (lv_at hl 0 rfl) ?_
        refine mt_getr (C := RX12) (T := TX12) (N := 29) hx hb hts hinX12 hown hI hH mt_T147 rfl 19 (by decide) kw2 rfl rfl dX12_passes_16 ?_
        refine lv_aload_n hx hb dX12_passes_19 rfl (lv_at hl 0 rfl) ?_
        refine mt_geti (C := RX12) (T := TX12) (N := 29) hx hb hts hinX12 hown hI hH mt_T147 rfl 22 (by decide) kw1 rfl rfl dX12_passes_20 ?_
        refine lv_aload_n hx hb dX12_passes_23 rfl (lv_at hl 1 rfl) ?_
        refine lv_iload_n hx hb dX12_passes_24 rfl (lv_at hl 2 rfl) ?_
        refine mt_ciI hf (fun q15 hf => ?_)
        refine mt_iald hx hb hI hH hT1 q15 dX12_passes_25 ?_
        refine mt_ciI hf (fun q17 hf => ?_)
        refine mt_iast hx hb hI hH hS mt_T160 q17 dX12_passes_26 (fun H locs hH hS => ?_)
        refine mt_ltI hf (fun M16 eM16 hf => ?_)
        rw [← eM16] at hH
        refine lv_goto (tgt := 42) hx hb dX12_passes_27 (by decide) ?_
        exact hj8 M16 hf _ _ _ hH hS (lv_sub hl [0, 1, 2] rfl)
set_option maxHeartbeats 4000000 in
set_option maxRecDepth 100000 in
theorem c_X12_passOne (l : Launch) (E : mt_E) (a1 : Int32) (M : mt_M) (u : mt_U) (r : Int32) (M' : mt_M) (hf : f_X12_passOne a1 M = some (r, M')) : Met l yX12_passOne wsX12_passOne ({ frames := 0, cells := 0, slots := 0, locals := 0 } : Room) (mt_P E [.ref (E.2.1 147), .int a1] M u) (mt_Qi E r M' u) 0 0 (mt_A E) := by
  refine Met.ofW (cc := cX12_passOne) (maxL := 3) (ret := (some .int)) (by decide) rfl ?_
  intro p e s mid args below meth c0 s₁ B hml hv
  obtain ⟨rfl, hI, hH⟩ := hv
  have hx := B.exec
  have hb := B.bytes
  have hr := B.returns
  have hts := atoms_spec (ws := wsX12_passOne) B.pre
  have hown : s.vm.findClass RX12 = some mid.cls := findClass_of_methodNamed B.named
  have hlocks := B.notSynchronized
  have hS : va_S (mt_A E) s.heap s.heap [] := va_S.rf
  have hl := lv_entry ([.ref (E.2.1 147), .int a1]) (n := 3) (Nat.le_of_ble_eq_true rfl)
  rw [lg_entry_eq]
  generalize (lg_sl ([.ref (E.2.1 147), .int a1]) ++ List.replicate (3 - (lg_sl ([.ref (E.2.1 147), .int a1])).length) Slot.unset).toArray = ls at hl ⊢
  have hl : lv_has ls 3 [(0, .ref (E.2.1 147)), (1, .int a1)] := hl
  unfold f_X12_passOne at hf
  have kw0 := hts (.fieldLink RX12 156 "MilkTwiceModel" "isKeeping" "Z") (List.mem_of_getElem? (i := 1) rfl)
  have kw1 := hts (.fieldLink RX12 160 "MilkTwiceModel" "cursor" "I") (List.mem_of_getElem? (i := 3) rfl)
  have kw2 := hts (.fieldLink RX12 46 "MilkTwiceModel" "kept" "[I") (List.mem_of_getElem? (i := 2) rfl)
  have hinX12 : ∀ w ∈ u_ws RX12 TX12 29, w ∈ wsX12_passOne := fun w h => List.mem_cons_of_mem _ (List.mem_append_right _ h)
  refine lv_aload_n hx hb dX12_passOne_0 rfl (lv_at hl 0 rfl) ?_
  refine mt_geti (C := RX12) (T := TX12) (N := 29) hx hb hts hinX12 hown hI hH mt_T147 rfl 21 (by decide) kw0 rfl rfl dX12_passOne_1 ?_
  refine mt_jn1 hf (fun (v1 : Int32) => ∀ (H : Heap) (locs : List Loc) (ls : Array Slot), mt_H E M u H → va_S (mt_A E) s.heap H locs → lv_has ls 3 [(0, .ref (E.2.1 147)), (1, .int a1)] → W p l e (headSpec wsX12_passOne ({ frames := 0, cells := 0, slots := 0, locals := 0 } : Room)).room s mid (([.ref (E.2.1 147), .int a1] : List Value).toArray) below meth c0 H locs 0 0 (MQ below (mt_Qi E r M' u) (([.ref (E.2.1 147), .int a1] : List Value).toArray) s 0 0 (mt_A E)) (F0 mid 20 ls [.int v1])) ?_ ?_
  · intro v1 hf H locs ls hH hS hl
    refine lv_istore_n (lv' := [(2, .int v1), (0, .ref (E.2.1 147)), (1, .int a1)]) hx hb dX12_passOne_20 rfl hl (by decide) rfl (fun ls hl => ?_)
    refine lv_aload_n hx hb dX12_passOne_21 rfl (lv_at hl 1 rfl) ?_
    refine mt_geti (C := RX12) (T := TX12) (N := 29) hx hb hts hinX12 hown hI hH mt_T147 rfl 21 (by decide) kw0 rfl rfl dX12_passOne_22 ?_
    refine mt_jn1 hf (fun (M4 : mt_M) => ∀ (H : Heap) (locs : List Loc) (ls : Array Slot), mt_H E M4 u H → va_S (mt_A E) s.heap H locs → lv_has ls 3 [(0, .ref (E.2.1 147)), (2, .int v1)] → W p l e (headSpec wsX12_passOne ({ frames := 0, cells := 0, slots := 0, locals := 0 } : Room)).room s mid (([.ref (E.2.1 147), .int a1] : List Value).toArray) below meth c0 H locs 0 0 (MQ below (mt_Qi E r M' u) (([.ref (E.2.1 147), .int a1] : List Value).toArray) s 0 0 (mt_A E)) (F0 mid 38 ls [])) ?_ ?_
    · intro M4 hf H locs ls hH hS hl
      refine lv_aload_n hx hb dX12_passOne_38 rfl (lv_at hl 0 rfl) ?_
      refine lv_dup hx hb dX12_passOne_39 rfl ?_
      refine mt_geti (C := RX12) (T := TX12) (N := 29) hx hb hts hinX12 hown hI hH mt_T147 rfl 22 (by decide) kw1 rfl rfl dX12_passOne_40 ?_
      refine lv_iconst (v := 1) hx hb dX12_passOne_43 (by decide) ?_
      refine lv_iadd hx hb dX12_passOne_44 ?_
      refine mt_puti (ty := .int) (C := RX12) (T := TX12) (N := 29) hx hb hts hinX12 tyX12 tyX12_ok nmX12 hown hI hH hS mt_T147 rfl 22 (by decide) kw1 rfl rfl (by decide +kernel) rfl rfl rfl dX12_passOne_45 (fun H locs hH hS => ?_)
      refine mt_ltI hf (fun M7 eM7 hf => ?_)
      rw [← eM7] at hH
      refine lv_iload_n hx hb dX12_passOne_48 rfl (lv_at hl 1 rfl) ?_
      obtain ⟨i1, i2⟩ := mt_so2 hf
      subst i1
      subst i2
      exact mt_iret hx hb hr hI hH hS hlocks dX12_passOne_49
    · intro j5 hj6 hf
      refine lv_if_eq (tgt := 38) hx hb dX12_passOne_25 (by decide) (fun c8 => ?_) (fun c8 => ?_)
      · have hf := mt_ifT c8 hf
        exact hj6 M hf _ _ _ hH hS (lv_sub hl [1, 0] rfl)
      · have hf := mt_ifF c8 hf
        refine lv_aload_n hx hb dX12_passOne_28 rfl (lv_at hl 1 rfl) ?_
        refine mt_getr (C := RX12) (T := TX12) (N := 29) hx hb hts hinX12 hown hI hH mt_T147 rfl 19 (by decide) kw2 rfl rfl dX12_passOne_29 ?_
        refine lv_aload_n hx hb dX12_passOne_32 rfl (lv_at hl 1 rfl) ?_
        refine mt_geti (C := RX12) (T := TX12) (N := 29) hx hb hts hinX12 hown hI hH mt_T147 rfl 22 (by decide) kw1 rfl rfl dX12_passOne_33 ?_
        refine lv_iload_n hx hb dX12_passOne_36 rfl (lv_at hl 2 rfl) ?_
        refine mt_ciI hf (fun q10 hf => ?_)
        refine mt_iast hx hb hI hH hS mt_T160 q10 dX12_passOne_37 (fun H locs hH hS => ?_)
        refine mt_ltI hf (fun M9 eM9 hf => ?_)
        rw [← eM9] at hH
        exact hj6 M9 hf _ _ _ hH hS (lv_sub hl [1, 0] rfl)
  · intro j2 hj3 hf
    refine lv_if_eq (tgt := 11) hx hb dX12_passOne_4 (by decide) (fun c11 => ?_) (fun c11 => ?_)
    · have hf := mt_ifT c11 hf
      refine lv_aload_n hx hb dX12_passOne_11 rfl (lv_at hl 0 rfl) ?_
      refine mt_getr (C := RX12) (T := TX12) (N := 29) hx hb hts hinX12 hown hI hH mt_T147 rfl 19 (by decide) kw2 rfl rfl dX12_passOne_12 ?_
      refine lv_aload_n hx hb dX12_passOne_15 rfl (lv_at hl 0 rfl) ?_
      refine mt_geti (C := RX12) (T := TX12) (N := 29) hx hb hts hinX12 hown hI hH mt_T147 rfl 22 (by decide) kw1 rfl rfl dX12_passOne_16 ?_
      refine mt_ciI hf (fun q12 hf => ?_)
      refine mt_iald hx hb hI hH mt_T160 q12 dX12_passOne_19 ?_
      exact hj3 (M 160 (M 147 22).toNatClampNeg) hf _ _ _ hH hS (lv_sub hl [0, 1] rfl)
    · have hf := mt_ifF c11 hf
      refine lv_iload_n hx hb dX12_passOne_7 rfl (lv_at hl 1 rfl) ?_
      refine lv_goto (tgt := 20) hx hb dX12_passOne_8 (by decide) ?_
      exact hj3 a1 hf _ _ _ hH hS (lv_sub hl [0, 1] rfl)
set_option maxHeartbeats 4000000 in
set_option maxRecDepth 100000 in
theorem c_X12_passesAll (l : Launch) (E : mt_E) (a1 : Int32) (a2 : Int32) (M : mt_M) (u : mt_U) (M' : mt_M) (hf : f_X12_passesAll a1 a2 M = some (M')) : Met l yX12_passesAll wsX12_passesAll ({ frames := 1, cells := 0, slots := 0, locals := 22 } : Room) (mt_P E [.ref (E.2.1 147), .int a1, .int a2] M u) (mt_Qv E M' u) 0 0 (mt_A E) := by
  refine Met.ofW (cc := cX12_passesAll) (maxL := 3) (ret := none) (by decide) rfl ?_
  intro p e s mid args below meth c0 s₁ B hml hv
  obtain ⟨rfl, hI, hH⟩ := hv
  have hx := B.exec
  have hb := B.bytes
  have hr := B.returns
  have hts := atoms_spec (ws := wsX12_passesAll) B.pre
  have hown : s.vm.findClass RX12 = some mid.cls := findClass_of_methodNamed B.named
  have hlocks := B.notSynchronized
  have hS : va_S (mt_A E) s.heap s.heap [] := va_S.rf
  have hl := lv_entry ([.ref (E.2.1 147), .int a1, .int a2]) (n := 3) (Nat.le_of_ble_eq_true rfl)
  rw [lg_entry_eq]
  generalize (lg_sl ([.ref (E.2.1 147), .int a1, .int a2]) ++ List.replicate (3 - (lg_sl ([.ref (E.2.1 147), .int a1, .int a2])).length) Slot.unset).toArray = ls at hl ⊢
  have hl : lv_has ls 3 [(0, .ref (E.2.1 147)), (1, .int a1), (2, .int a2)] := hl
  unfold f_X12_passesAll at hf
  have kw0 := hts (.fieldLink RX12 160 "MilkTwiceModel" "cursor" "I") (List.mem_of_getElem? (i := 1) rfl)
  have kw1 := hts (.fieldLink RX12 156 "MilkTwiceModel" "isKeeping" "Z") (List.mem_of_getElem? (i := 2) rfl)
  have kw2 := hts (.fieldLink RX12 13 "MilkTwiceModel" "kind" "[I") (List.mem_of_getElem? (i := 3) rfl)
  have kw3 := hts (.fieldLink RX12 16 "MilkTwiceModel" "figure" "[I") (List.mem_of_getElem? (i := 4) rfl)
  have kw4 := hts (.fieldLink RX12 19 "MilkTwiceModel" "use" "[I") (List.mem_of_getElem? (i := 5) rfl)
  have kw5 := hts (.fieldLink RX12 22 "MilkTwiceModel" "stocked" "[I") (List.mem_of_getElem? (i := 6) rfl)
  have kw6 := hts (.fieldLink RX12 25 "MilkTwiceModel" "wanted" "[I") (List.mem_of_getElem? (i := 7) rfl)
  have kw7 := hts (.fieldLink RX12 28 "MilkTwiceModel" "clock" "[I") (List.mem_of_getElem? (i := 8) rfl)
  have kw8 := hts (.fieldLink RX12 31 "MilkTwiceModel" "sums" "[I") (List.mem_of_getElem? (i := 9) rfl)
  have kw9 := hts (.fieldLink RX12 59 "MilkTwiceModel" "things" "I") (List.mem_of_getElem? (i := 10) rfl)
  have kw10 := hts (.fieldLink RX12 110 "MilkTwiceModel" "now" "I") (List.mem_of_getElem? (i := 11) rfl)
  have kw11 := hts (.fieldLink RX12 121 "MilkTwiceModel" "days" "I") (List.mem_of_getElem? (i := 12) rfl)
  have kw12 := hts (.fieldLink RX12 133 "MilkTwiceModel" "rule" "I") (List.mem_of_getElem? (i := 13) rfl)
  have hinX12 : ∀ w ∈ u_ws RX12 TX12 29, w ∈ wsX12_passesAll := fun w h => List.mem_cons_of_mem _ (List.mem_append_right _ h)
  refine lv_aload_n hx hb dX12_passesAll_0 rfl (lv_at hl 0 rfl) ?_
  refine lv_bipush (v := 65) hx hb dX12_passesAll_1 (by decide) ?_
  refine lv_iload_n hx hb dX12_passesAll_3 rfl (lv_at hl 1 rfl) ?_
  refine lv_imul hx hb dX12_passesAll_4 ?_
  refine mt_puti (ty := .int) (C := RX12) (T := TX12) (N := 29) hx hb hts hinX12 tyX12 tyX12_ok nmX12 hown hI hH hS mt_T147 rfl 22 (by decide) kw0 rfl rfl (by decide +kernel) rfl rfl rfl dX12_passesAll_5 (fun H locs hH hS => ?_)
  refine mt_ltI hf (fun M1 eM1 hf => ?_)
  rw [← eM1] at hH
  refine lv_aload_n hx hb dX12_passesAll_8 rfl (lv_at hl 0 rfl) ?_
  refine lv_iload_n hx hb dX12_passesAll_9 rfl (lv_at hl 2 rfl) ?_
  refine mt_ckI hf (fun q3 hf => ?_)
  refine mt_puti (ty := .boolean) (C := RX12) (T := TX12) (N := 29) hx hb hts hinX12 tyX12 tyX12_ok nmX12 hown hI hH hS mt_T147 rfl 21 (by decide) kw1 rfl rfl (by decide +kernel) (mt_nb q3).1 (mt_nb q3).2 rfl dX12_passesAll_10 (fun H locs hH hS => ?_)
  refine mt_ltI hf (fun M2 eM2 hf => ?_)
  rw [← eM2] at hH
  refine lv_aload_n hx hb dX12_passesAll_13 rfl (lv_at hl 0 rfl) ?_
  refine lv_aload_n hx hb dX12_passesAll_14 rfl (lv_at hl 0 rfl) ?_
  refine mt_getr (C := RX12) (T := TX12) (N := 29) hx hb hts hinX12 hown hI hH mt_T147 rfl 1 (by decide) kw2 rfl rfl dX12_passesAll_15 ?_
  refine mt_b1I hf (fun M5 hg4 hf => ?_)
  refine mt_gov (mt_runV (i := 147) (As := [.ref (E.2.1 149)]) (rest := []) ⟨hx, hb, hml, hown, hts⟩ hI hH (c_X12_passes l E 149 7 mt_T149 M2 u _ hg4) (cwV 1 hts gX12_passesAll_X12_passes rfl rfl rfl (by decide +kernel) ⟨Nat.le_of_ble_eq_true rfl, Nat.le_of_ble_eq_true rfl⟩) mt_T147 rfl rfl hl.1 rfl (Nat.le_of_ble_eq_true rfl) dX12_passesAll_18 ⟨Nat.zero_le _, Nat.zero_le _⟩) hS (fun H locs hH hS => ?_)
  refine lv_aload_n hx hb dX12_passesAll_21 rfl (lv_at hl 0 rfl) ?_
  refine lv_aload_n hx hb dX12_passesAll_22 rfl (lv_at hl 0 rfl) ?_
  refine mt_getr (C := RX12) (T := TX12) (N := 29) hx hb hts hinX12 hown hI hH mt_T147 rfl 2 (by decide) kw3 rfl rfl dX12_passesAll_23 ?_
  refine mt_b1I hf (fun M7 hg6 hf => ?_)
  refine mt_gov (mt_runV (i := 147) (As := [.ref (E.2.1 150)]) (rest := []) ⟨hx, hb, hml, hown, hts⟩ hI hH (c_X12_passes l E 150 7 mt_T150 M5 u _ hg6) (cwV 1 hts gX12_passesAll_X12_passes rfl rfl rfl (by decide +kernel) ⟨Nat.le_of_ble_eq_true rfl, Nat.le_of_ble_eq_true rfl⟩) mt_T147 rfl rfl hl.1 rfl (Nat.le_of_ble_eq_true rfl) dX12_passesAll_26 ⟨Nat.zero_le _, Nat.zero_le _⟩) hS (fun H locs hH hS => ?_)
  refine lv_aload_n hx hb dX12_passesAll_29 rfl (lv_at hl 0 rfl) ?_
  refine lv_aload_n hx hb dX12_passesAll_30 rfl (lv_at hl 0 rfl) ?_
  refine mt_getr (C := RX12) (T := TX12) (N := 29) hx hb hts hinX12 hown hI hH mt_T147 rfl 3 (by decide) kw4 rfl rfl dX12_passesAll_31 ?_
  refine mt_b1I hf (fun M9 hg8 hf => ?_)
  refine mt_gov (mt_runV (i := 147) (As := [.ref (E.2.1 151)]) (rest := []) ⟨hx, hb, hml, hown, hts⟩ hI hH (c_X12_passes l E 151 7 mt_T151 M7 u _ hg8) (cwV 1 hts gX12_passesAll_X12_passes rfl rfl rfl (by decide +kernel) ⟨Nat.le_of_ble_eq_true rfl, Nat.le_of_ble_eq_true rfl⟩) mt_T147 rfl rfl hl.1 rfl (Nat.le_of_ble_eq_true rfl) dX12_passesAll_34 ⟨Nat.zero_le _, Nat.zero_le _⟩) hS (fun H locs hH hS => ?_)
  refine lv_aload_n hx hb dX12_passesAll_37 rfl (lv_at hl 0 rfl) ?_
  refine lv_aload_n hx hb dX12_passesAll_38 rfl (lv_at hl 0 rfl) ?_
  refine mt_getr (C := RX12) (T := TX12) (N := 29) hx hb hts hinX12 hown hI hH mt_T147 rfl 4 (by decide) kw5 rfl rfl dX12_passesAll_39 ?_
  refine mt_b1I hf (fun M11 hg10 hf => ?_)
  refine mt_gov (mt_runV (i := 147) (As := [.ref (E.2.1 152)]) (rest := []) ⟨hx, hb, hml, hown, hts⟩ hI hH (c_X12_passes l E 152 7 mt_T152 M9 u _ hg10) (cwV 1 hts gX12_passesAll_X12_passes rfl rfl rfl (by decide +kernel) ⟨Nat.le_of_ble_eq_true rfl, Nat.le_of_ble_eq_true rfl⟩) mt_T147 rfl rfl hl.1 rfl (Nat.le_of_ble_eq_true rfl) dX12_passesAll_42 ⟨Nat.zero_le _, Nat.zero_le _⟩) hS (fun H locs hH hS => ?_)
  refine lv_aload_n hx hb dX12_passesAll_45 rfl (lv_at hl 0 rfl) ?_
  refine lv_aload_n hx hb dX12_passesAll_46 rfl (lv_at hl 0 rfl) ?_
  refine mt_getr (C := RX12) (T := TX12) (N := 29) hx hb hts hinX12 hown hI hH mt_T147 rfl 5 (by decide) kw6 rfl rfl dX12_passesAll_47 ?_
  refine mt_b1I hf (fun M13 hg12 hf => ?_)
  refine mt_gov (mt_runV (i := 147) (As := [.ref (E.2.1 153)]) (rest := []) ⟨hx, hb, hml, hown, hts⟩ hI hH (c_X12_passes l E 153 14 mt_T153 M11 u _ hg12) (cwV 1 hts gX12_passesAll_X12_passes rfl rfl rfl (by decide +kernel) ⟨Nat.le_of_ble_eq_true rfl, Nat.le_of_ble_eq_true rfl⟩) mt_T147 rfl rfl hl.1 rfl (Nat.le_of_ble_eq_true rfl) dX12_passesAll_50 ⟨Nat.zero_le _, Nat.zero_le _⟩) hS (fun H locs hH hS => ?_)
  refine lv_aload_n hx hb dX12_passesAll_53 rfl (lv_at hl 0 rfl) ?_
  refine lv_aload_n hx hb dX12_passesAll_54 rfl (lv_at hl 0 rfl) ?_
  refine mt_getr (C := RX12) (T := TX12) (N := 29) hx hb hts hinX12 hown hI hH mt_T147 rfl 6 (by decide) kw7 rfl rfl dX12_passesAll_55 ?_
  refine mt_b1I hf (fun M15 hg14 hf => ?_)
  refine mt_gov (mt_runV (i := 147) (As := [.ref (E.2.1 154)]) (rest := []) ⟨hx, hb, hml, hown, hts⟩ hI hH (c_X12_passes l E 154 14 mt_T154 M13 u _ hg14) (cwV 1 hts gX12_passesAll_X12_passes rfl rfl rfl (by decide +kernel) ⟨Nat.le_of_ble_eq_true rfl, Nat.le_of_ble_eq_true rfl⟩) mt_T147 rfl rfl hl.1 rfl (Nat.le_of_ble_eq_true rfl) dX12_passesAll_58 ⟨Nat.zero_le _, Nat.zero_le _⟩) hS (fun H locs hH hS => ?_)
  refine lv_aload_n hx hb dX12_passesAll_61 rfl (lv_at hl 0 rfl) ?_
  refine lv_aload_n hx hb dX12_passesAll_62 rfl (lv_at hl 0 rfl) ?_
  refine mt_getr (C := RX12) (T := TX12) (N := 29) hx hb hts hinX12 hown hI hH mt_T147 rfl 7 (by decide) kw8 rfl rfl dX12_passesAll_63 ?_
  refine mt_b1I hf (fun M17 hg16 hf => ?_)
  refine mt_gov (mt_runV (i := 147) (As := [.ref (E.2.1 155)]) (rest := []) ⟨hx, hb, hml, hown, hts⟩ hI hH (c_X12_passes l E 155 3 mt_T155 M15 u _ hg16) (cwV 1 hts gX12_passesAll_X12_passes rfl rfl rfl (by decide +kernel) ⟨Nat.le_of_ble_eq_true rfl, Nat.le_of_ble_eq_true rfl⟩) mt_T147 rfl rfl hl.1 rfl (Nat.le_of_ble_eq_true rfl) dX12_passesAll_66 ⟨Nat.zero_le _, Nat.zero_le _⟩) hS (fun H locs hH hS => ?_)
  refine lv_aload_n hx hb dX12_passesAll_69 rfl (lv_at hl 0 rfl) ?_
  refine lv_aload_n hx hb dX12_passesAll_70 rfl (lv_at hl 0 rfl) ?_
  refine lv_aload_n hx hb dX12_passesAll_71 rfl (lv_at hl 0 rfl) ?_
  refine mt_geti (C := RX12) (T := TX12) (N := 29) hx hb hts hinX12 hown hI hH mt_T147 rfl 8 (by decide) kw9 rfl rfl dX12_passesAll_72 ?_
  refine mt_b2I hf (fun r19 M20 hg18 hf => ?_)
  refine mt_goi (mt_runV (i := 147) (As := [.int (M17 147 8)]) (rest := [.ref (E.2.1 147)]) ⟨hx, hb, hml, hown, hts⟩ hI hH (c_X12_passOne l E (M17 147 8) M17 u _ _ hg18) (cwV 1 hts gX12_passesAll_X12_passOne rfl rfl rfl (by decide +kernel) ⟨Nat.le_of_ble_eq_true rfl, Nat.le_of_ble_eq_true rfl⟩) mt_T147 rfl rfl hl.1 rfl (Nat.le_of_ble_eq_true rfl) dX12_passesAll_75 ⟨Nat.zero_le _, Nat.zero_le _⟩) hS (fun H locs hH hS => ?_)
  refine mt_puti (ty := .int) (C := RX12) (T := TX12) (N := 29) hx hb hts hinX12 tyX12 tyX12_ok nmX12 hown hI hH hS mt_T147 rfl 8 (by decide) kw9 rfl rfl (by decide +kernel) rfl rfl rfl dX12_passesAll_78 (fun H locs hH hS => ?_)
  refine mt_ltI hf (fun M21 eM21 hf => ?_)
  rw [← eM21] at hH
  refine lv_aload_n hx hb dX12_passesAll_81 rfl (lv_at hl 0 rfl) ?_
  refine lv_aload_n hx hb dX12_passesAll_82 rfl (lv_at hl 0 rfl) ?_
  refine lv_aload_n hx hb dX12_passesAll_83 rfl (lv_at hl 0 rfl) ?_
  refine mt_geti (C := RX12) (T := TX12) (N := 29) hx hb hts hinX12 hown hI hH mt_T147 rfl 9 (by decide) kw10 rfl rfl dX12_passesAll_84 ?_
  refine mt_b2I hf (fun r23 M24 hg22 hf => ?_)
  refine mt_goi (mt_runV (i := 147) (As := [.int (M21 147 9)]) (rest := [.ref (E.2.1 147)]) ⟨hx, hb, hml, hown, hts⟩ hI hH (c_X12_passOne l E (M21 147 9) M21 u _ _ hg22) (cwV 1 hts gX12_passesAll_X12_passOne rfl rfl rfl (by decide +kernel) ⟨Nat.le_of_ble_eq_true rfl, Nat.le_of_ble_eq_true rfl⟩) mt_T147 rfl rfl hl.1 rfl (Nat.le_of_ble_eq_true rfl) dX12_passesAll_87 ⟨Nat.zero_le _, Nat.zero_le _⟩) hS (fun H locs hH hS => ?_)
  refine mt_puti (ty := .int) (C := RX12) (T := TX12) (N := 29) hx hb hts hinX12 tyX12 tyX12_ok nmX12 hown hI hH hS mt_T147 rfl 9 (by decide) kw10 rfl rfl (by decide +kernel) rfl rfl rfl dX12_passesAll_90 (fun H locs hH hS => ?_)
  refine mt_ltI hf (fun M25 eM25 hf => ?_)
  rw [← eM25] at hH
  refine lv_aload_n hx hb dX12_passesAll_93 rfl (lv_at hl 0 rfl) ?_
  refine lv_aload_n hx hb dX12_passesAll_94 rfl (lv_at hl 0 rfl) ?_
  refine lv_aload_n hx hb dX12_passesAll_95 rfl (lv_at hl 0 rfl) ?_
  refine mt_geti (C := RX12) (T := TX12) (N := 29) hx hb hts hinX12 hown hI hH mt_T147 rfl 10 (by decide) kw11 rfl rfl dX12_passesAll_96 ?_
  refine mt_b2I hf (fun r27 M28 hg26 hf => ?_)
  refine mt_goi (mt_runV (i := 147) (As := [.int (M25 147 10)]) (rest := [.ref (E.2.1 147)]) ⟨hx, hb, hml, hown, hts⟩ hI hH (c_X12_passOne l E (M25 147 10) M25 u _ _ hg26) (cwV 1 hts gX12_passesAll_X12_passOne rfl rfl rfl (by decide +kernel) ⟨Nat.le_of_ble_eq_true rfl, Nat.le_of_ble_eq_true rfl⟩) mt_T147 rfl rfl hl.1 rfl (Nat.le_of_ble_eq_true rfl) dX12_passesAll_99 ⟨Nat.zero_le _, Nat.zero_le _⟩) hS (fun H locs hH hS => ?_)
  refine mt_puti (ty := .int) (C := RX12) (T := TX12) (N := 29) hx hb hts hinX12 tyX12 tyX12_ok nmX12 hown hI hH hS mt_T147 rfl 10 (by decide) kw11 rfl rfl (by decide +kernel) rfl rfl rfl dX12_passesAll_102 (fun H locs hH hS => ?_)
  refine mt_ltI hf (fun M29 eM29 hf => ?_)
  rw [← eM29] at hH
  refine lv_aload_n hx hb dX12_passesAll_105 rfl (lv_at hl 0 rfl) ?_
  refine lv_aload_n hx hb dX12_passesAll_106 rfl (lv_at hl 0 rfl) ?_
  refine lv_aload_n hx hb dX12_passesAll_107 rfl (lv_at hl 0 rfl) ?_
  refine mt_geti (C := RX12) (T := TX12) (N := 29) hx hb hts hinX12 hown hI hH mt_T147 rfl 11 (by decide) kw12 rfl rfl dX12_passesAll_108 ?_
  refine mt_b2I hf (fun r31 M32 hg30 hf => ?_)
  refine mt_goi (mt_runV (i := 147) (As := [.int (M29 147 11)]) (rest := [.ref (E.2.1 147)]) ⟨hx, hb, hml, hown, hts⟩ hI hH (c_X12_passOne l E (M29 147 11) M29 u _ _ hg30) (cwV 1 hts gX12_passesAll_X12_passOne rfl rfl rfl (by decide +kernel) ⟨Nat.le_of_ble_eq_true rfl, Nat.le_of_ble_eq_true rfl⟩) mt_T147 rfl rfl hl.1 rfl (Nat.le_of_ble_eq_true rfl) dX12_passesAll_111 ⟨Nat.zero_le _, Nat.zero_le _⟩) hS (fun H locs hH hS => ?_)
  refine mt_puti (ty := .int) (C := RX12) (T := TX12) (N := 29) hx hb hts hinX12 tyX12 tyX12_ok nmX12 hown hI hH hS mt_T147 rfl 11 (by decide) kw12 rfl rfl (by decide +kernel) rfl rfl rfl dX12_passesAll_114 (fun H locs hH hS => ?_)
  refine mt_ltI hf (fun M33 eM33 hf => ?_)
  rw [← eM33] at hH
  have i1 := mt_so1 hf
  subst i1
  exact mt_vret hx hb hr hI hH hS hlocks dX12_passesAll_117
set_option maxHeartbeats 4000000 in
set_option maxRecDepth 100000 in
theorem c_X12_house (l : Launch) (E : mt_E)  (M : mt_M) (u : mt_U) (r : Int32) (M' : mt_M) (hf : f_X12_house M = some (r, M')) : Met l yX12_house wsX12_house ({ frames := 5, cells := 0, slots := 0, locals := 112 } : Room) (mt_P E [.ref (E.2.1 147)] M u) (mt_Qi E r M' u) 0 0 (mt_A E) := by
  refine Met.ofW (cc := cX12_house) (maxL := 3) (ret := (some .int)) (by decide) rfl ?_
  intro p e s mid args below meth c0 s₁ B hml hv
  obtain ⟨rfl, hI, hH⟩ := hv
  have hx := B.exec
  have hb := B.bytes
  have hr := B.returns
  have hts := atoms_spec (ws := wsX12_house) B.pre
  have hown : s.vm.findClass RX12 = some mid.cls := findClass_of_methodNamed B.named
  have hlocks := B.notSynchronized
  have hS : va_S (mt_A E) s.heap s.heap [] := va_S.rf
  have hl := lv_entry ([.ref (E.2.1 147)]) (n := 3) (Nat.le_of_ble_eq_true rfl)
  rw [lg_entry_eq]
  generalize (lg_sl ([.ref (E.2.1 147)]) ++ List.replicate (3 - (lg_sl ([.ref (E.2.1 147)])).length) Slot.unset).toArray = ls at hl ⊢
  have hl : lv_has ls 3 [(0, .ref (E.2.1 147))] := hl
  unfold f_X12_house at hf
  have kw0 := hts (.fieldLink RX12 83 "MilkTwiceModel" "at" "I") (List.mem_of_getElem? (i := 1) rfl)
  have kw1 := hts (.fieldLink RX12 101 "MilkTwiceModel" "statements" "I") (List.mem_of_getElem? (i := 2) rfl)
  have kw2 := hts (.fieldLink RX12 76 "MilkTwiceModel" "taped" "I") (List.mem_of_getElem? (i := 3) rfl)
  have kw3 := hts (.fieldLink RX12 153 "MilkTwiceModel" "backs" "I") (List.mem_of_getElem? (i := 5) rfl)
  have kw4 := hts (.fieldLink RX12 40 "MilkTwiceModel" "letterAt" "[I") (List.mem_of_getElem? (i := 4) rfl)
  have hinX12 : ∀ w ∈ u_ws RX12 TX12 29, w ∈ wsX12_house := fun w h => List.mem_cons_of_mem _ (List.mem_append_right _ h)
  refine lv_aload_n hx hb dX12_house_0 rfl (lv_at hl 0 rfl) ?_
  refine lv_iconst (v := 0) hx hb dX12_house_1 (by decide) ?_
  refine mt_puti (ty := .int) (C := RX12) (T := TX12) (N := 29) hx hb hts hinX12 tyX12 tyX12_ok nmX12 hown hI hH hS mt_T147 rfl 17 (by decide) kw0 rfl rfl (by decide +kernel) rfl rfl rfl dX12_house_2 (fun H locs hH hS => ?_)
  refine mt_ltI hf (fun M1 eM1 hf => ?_)
  rw [← eM1] at hH
  refine lv_aload_n hx hb dX12_house_5 rfl (lv_at hl 0 rfl) ?_
  refine lv_iconst (v := 0) hx hb dX12_house_6 (by decide) ?_
  refine mt_puti (ty := .int) (C := RX12) (T := TX12) (N := 29) hx hb hts hinX12 tyX12 tyX12_ok nmX12 hown hI hH hS mt_T147 rfl 18 (by decide) kw1 rfl rfl (by decide +kernel) rfl rfl rfl dX12_house_7 (fun H locs hH hS => ?_)
  refine mt_ltI hf (fun M2 eM2 hf => ?_)
  rw [← eM2] at hH
  refine lv_iconst (v := 1) hx hb dX12_house_10 (by decide) ?_
  refine lv_istore_n (lv' := [(1, .int (1 : Int32)), (0, .ref (E.2.1 147))]) hx hb dX12_house_11 rfl hl (by decide) rfl (fun ls hl => ?_)
  refine mt_lpI2 hf (fun (x3 : Int32) (M4 : mt_M) => ∀ (H : Heap) (locs : List Loc) (ls : Array Slot), mt_H E M4 u H → va_S (mt_A E) s.heap H locs → lv_has ls 3 [(0, .ref (E.2.1 147)), (1, .int x3)] → W p l e (headSpec wsX12_house ({ frames := 5, cells := 0, slots := 0, locals := 112 } : Room)).room s mid (([.ref (E.2.1 147)] : List Value).toArray) below meth c0 H locs 0 0 (MQ below (mt_Qi E r M' u) (([.ref (E.2.1 147)] : List Value).toArray) s 0 0 (mt_A E)) (F0 mid 12 ls [])) ?_ _ _ _ hH hS (lv_sub hl [1, 0] rfl)
  intro k5 ih6 x3 M4 hf H locs ls hH hS hl
  refine lv_iload_n hx hb dX12_house_12 rfl (lv_at hl 1 rfl) ?_
  refine mt_jn0 hf (∀ (H : Heap) (locs : List Loc) (ls : Array Slot), mt_H E M4 u H → va_S (mt_A E) s.heap H locs → lv_has ls 3 [(0, .ref (E.2.1 147)), (1, .int x3)] → W p l e (headSpec wsX12_house ({ frames := 5, cells := 0, slots := 0, locals := 112 } : Room)).room s mid (([.ref (E.2.1 147)] : List Value).toArray) below meth c0 H locs 0 0 (MQ below (mt_Qi E r M' u) (([.ref (E.2.1 147)] : List Value).toArray) s 0 0 (mt_A E)) (F0 mid 60 ls [])) ?_ ?_
  · intro hf H locs ls hH hS hl
    refine lv_aload_n hx hb dX12_house_60 rfl (lv_at hl 0 rfl) ?_
    refine lv_iconst (v := 0) hx hb dX12_house_61 (by decide) ?_
    refine mt_puti (ty := .int) (C := RX12) (T := TX12) (N := 29) hx hb hts hinX12 tyX12 tyX12_ok nmX12 hown hI hH hS mt_T147 rfl 16 (by decide) kw2 rfl rfl (by decide +kernel) rfl rfl rfl dX12_house_62 (fun H locs hH hS => ?_)
    refine mt_ltI hf (fun M9 eM9 hf => ?_)
    rw [← eM9] at hH
    refine lv_iload_n hx hb dX12_house_65 rfl (lv_at hl 1 rfl) ?_
    refine lv_if_ne (tgt := 78) hx hb dX12_house_66 (by decide) (fun c10 => ?_) (fun c10 => ?_)
    · have hf := mt_ifF c10 hf
      refine lv_aload_n hx hb dX12_house_78 rfl (lv_at hl 0 rfl) ?_
      refine lv_iconst (v := 1) hx hb dX12_house_79 (by decide) ?_
      refine lv_iconst (v := 1) hx hb dX12_house_80 (by decide) ?_
      refine mt_b1I hf (fun M12 hg11 hf => ?_)
      refine mt_gov (mt_runV (i := 147) (As := [.int (1 : Int32), .int (1 : Int32)]) (rest := []) ⟨hx, hb, hml, hown, hts⟩ hI hH (c_X12_passesAll l E (1 : Int32) (1 : Int32) M9 u _ hg11) (cwV 2 hts gX12_house_X12_passesAll rfl rfl rfl (by decide +kernel) ⟨Nat.le_of_ble_eq_true rfl, Nat.le_of_ble_eq_true rfl⟩) mt_T147 rfl rfl hl.1 rfl (Nat.le_of_ble_eq_true rfl) dX12_house_81 ⟨Nat.zero_le _, Nat.zero_le _⟩) hS (fun H locs hH hS => ?_)
      refine lv_iconst (v := 0) hx hb dX12_house_84 (by decide) ?_
      refine lv_istore_n (lv' := [(2, .int (0 : Int32)), (0, .ref (E.2.1 147)), (1, .int x3)]) hx hb dX12_house_85 rfl hl (by decide) rfl (fun ls hl => ?_)
      refine mt_lpI2 hf (fun (x13 : Int32) (M14 : mt_M) => ∀ (H : Heap) (locs : List Loc) (ls : Array Slot), mt_H E M14 u H → va_S (mt_A E) s.heap H locs → lv_has ls 3 [(0, .ref (E.2.1 147)), (2, .int x13)] → W p l e (headSpec wsX12_house ({ frames := 5, cells := 0, slots := 0, locals := 112 } : Room)).room s mid (([.ref (E.2.1 147)] : List Value).toArray) below meth c0 H locs 0 0 (MQ below (mt_Qi E r M' u) (([.ref (E.2.1 147)] : List Value).toArray) s 0 0 (mt_A E)) (F0 mid 86 ls [])) ?_ _ _ _ hH hS (lv_sub hl [1, 0] rfl)
      intro k15 ih16 x13 M14 hf H locs ls hH hS hl
      refine lv_iload_n hx hb dX12_house_86 rfl (lv_at hl 1 rfl) ?_
      refine lv_aload_n hx hb dX12_house_87 rfl (lv_at hl 0 rfl) ?_
      refine mt_geti (C := RX12) (T := TX12) (N := 29) hx hb hts hinX12 hown hI hH mt_T147 rfl 18 (by decide) kw1 rfl rfl dX12_house_88 ?_
      refine lv_icmp_ge (tgt := 128) hx hb dX12_house_91 (by decide) (fun c17 => ?_) (fun c17 => ?_)
      · have hf := mt_ifT c17 hf
        refine lv_aload_n hx hb dX12_house_128 rfl (lv_at hl 0 rfl) ?_
        refine lv_iconst (v := 0) hx hb dX12_house_129 (by decide) ?_
        refine mt_puti (ty := .int) (C := RX12) (T := TX12) (N := 29) hx hb hts hinX12 tyX12 tyX12_ok nmX12 hown hI hH hS mt_T147 rfl 23 (by decide) kw3 rfl rfl (by decide +kernel) rfl rfl rfl dX12_house_130 (fun H locs hH hS => ?_)
        refine mt_ltI hf (fun M18 eM18 hf => ?_)
        rw [← eM18] at hH
        refine lv_aload_n hx hb dX12_house_133 rfl (lv_at hl 0 rfl) ?_
        refine mt_geti (C := RX12) (T := TX12) (N := 29) hx hb hts hinX12 hown hI hH mt_T147 rfl 18 (by decide) kw1 rfl rfl dX12_house_134 ?_
        obtain ⟨i1, i2⟩ := mt_so2 hf
        subst i1
        subst i2
        exact mt_iret hx hb hr hI hH hS hlocks dX12_house_137
      · have hf := mt_ifF c17 hf
        refine lv_aload_n hx hb dX12_house_94 rfl (lv_at hl 0 rfl) ?_
        refine lv_iload_n hx hb dX12_house_95 rfl (lv_at hl 1 rfl) ?_
        refine mt_b2I hf (fun r20 M21 hg19 hf => ?_)
        refine mt_goi (mt_runV (i := 147) (As := [.int x13]) (rest := []) ⟨hx, hb, hml, hown, hts⟩ hI hH (c_X12_comes l E x13 M14 u _ _ hg19) (cwV 1 hts gX12_house_X12_comes rfl rfl rfl (by decide +kernel) ⟨Nat.le_of_ble_eq_true rfl, Nat.le_of_ble_eq_true rfl⟩) mt_T147 rfl rfl hl.1 rfl (Nat.le_of_ble_eq_true rfl) dX12_house_96 ⟨Nat.zero_le _, Nat.zero_le _⟩) hS (fun H locs hH hS => ?_)
        refine lv_if_eq (tgt := 105) hx hb dX12_house_99 (by decide) (fun c22 => ?_) (fun c22 => ?_)
        · have hf := mt_ifT c22 hf
          refine lv_aload_n hx hb dX12_house_105 rfl (lv_at hl 0 rfl) ?_
          refine lv_iconst (v := 1) hx hb dX12_house_106 (by decide) ?_
          refine lv_iconst (v := 0) hx hb dX12_house_107 (by decide) ?_
          refine mt_b1I hf (fun M24 hg23 hf => ?_)
          refine mt_gov (mt_runV (i := 147) (As := [.int (1 : Int32), .int (0 : Int32)]) (rest := []) ⟨hx, hb, hml, hown, hts⟩ hI hH (c_X12_passesAll l E (1 : Int32) (0 : Int32) M21 u _ hg23) (cwV 2 hts gX12_house_X12_passesAll rfl rfl rfl (by decide +kernel) ⟨Nat.le_of_ble_eq_true rfl, Nat.le_of_ble_eq_true rfl⟩) mt_T147 rfl rfl hl.1 rfl (Nat.le_of_ble_eq_true rfl) dX12_house_108 ⟨Nat.zero_le _, Nat.zero_le _⟩) hS (fun H locs hH hS => ?_)
          refine lv_sipush (v := (-2000)) hx hb dX12_house_111 (by decide) ?_
          refine lv_aload_n hx hb dX12_house_114 rfl (lv_at hl 0 rfl) ?_
          refine mt_getr (C := RX12) (T := TX12) (N := 29) hx hb hts hinX12 hown hI hH mt_T147 rfl 14 (by decide) kw4 rfl rfl dX12_house_115 ?_
          refine lv_iload_n hx hb dX12_house_118 rfl (lv_at hl 1 rfl) ?_
          refine mt_ciI hf (fun q25 hf => ?_)
          refine mt_iald hx hb hI hH mt_T158 q25 dX12_house_119 ?_
          refine lv_isub hx hb dX12_house_120 ?_
          obtain ⟨i1, i2⟩ := mt_so2 hf
          subst i1
          subst i2
          exact mt_iret hx hb hr hI hH hS hlocks dX12_house_121
        · have hf := mt_ifF c22 hf
          refine lv_goto (tgt := 122) hx hb dX12_house_102 (by decide) ?_
          refine mt_ltI hf (fun x26 ex26 hf => ?_)
          refine lv_iinc (v := x26) (lv' := [(2, .int x26), (0, .ref (E.2.1 147))]) hx hb dX12_house_122 hl (k := 1) rfl (by rw [ex26]; rfl) (by decide) rfl (fun ls hl => ?_)
          refine lv_goto (tgt := 86) hx hb dX12_house_125 (by decide) ?_
          exact ih16 x26 M21 hf _ _ _ hH hS (lv_sub hl [1, 0] rfl)
    · have hf := mt_ifT c10 hf
      refine lv_sipush (v := (-1000)) hx hb dX12_house_69 (by decide) ?_
      refine lv_aload_n hx hb dX12_house_72 rfl (lv_at hl 0 rfl) ?_
      refine mt_geti (C := RX12) (T := TX12) (N := 29) hx hb hts hinX12 hown hI hH mt_T147 rfl 17 (by decide) kw0 rfl rfl dX12_house_73 ?_
      refine lv_isub hx hb dX12_house_76 ?_
      obtain ⟨i1, i2⟩ := mt_so2 hf
      subst i1
      subst i2
      exact mt_iret hx hb hr hI hH hS hlocks dX12_house_77
  · intro j7 hj8 hf
    refine lv_if_eq (tgt := 60) hx hb dX12_house_13 (by decide) (fun c27 => ?_) (fun c27 => ?_)
    · have hf := mt_ifT c27 hf
      exact hj8 hf _ _ _ hH hS (lv_sub hl [0, 1] rfl)
    · have hf := mt_ifF c27 hf
      refine lv_aload_n hx hb dX12_house_16 rfl (lv_at hl 0 rfl) ?_
      refine mt_geti (C := RX12) (T := TX12) (N := 29) hx hb hts hinX12 hown hI hH mt_T147 rfl 17 (by decide) kw0 rfl rfl dX12_house_17 ?_
      refine lv_aload_n hx hb dX12_house_20 rfl (lv_at hl 0 rfl) ?_
      refine mt_geti (C := RX12) (T := TX12) (N := 29) hx hb hts hinX12 hown hI hH mt_T147 rfl 16 (by decide) kw2 rfl rfl dX12_house_21 ?_
      refine mt_jn0 hf (∀ (H : Heap) (locs : List Loc) (ls : Array Slot), mt_H E M4 u H → va_S (mt_A E) s.heap H locs → lv_has ls 3 [(0, .ref (E.2.1 147))] → W p l e (headSpec wsX12_house ({ frames := 5, cells := 0, slots := 0, locals := 112 } : Room)).room s mid (([.ref (E.2.1 147)] : List Value).toArray) below meth c0 H locs 0 0 (MQ below (mt_Qi E r M' u) (([.ref (E.2.1 147)] : List Value).toArray) s 0 0 (mt_A E)) (F0 mid 34 ls [])) ?_ ?_
      · intro hf H locs ls hH hS hl
        refine lv_aload_n hx hb dX12_house_34 rfl (lv_at hl 0 rfl) ?_
        refine mt_b2I hf (fun r31 M32 hg30 hf => ?_)
        refine mt_goi (mt_runV (i := 147) (As := []) (rest := []) ⟨hx, hb, hml, hown, hts⟩ hI hH (c_X12_statement l E M4 u _ _ hg30) (cwV 0 hts gX12_house_X12_statement rfl rfl rfl (by decide +kernel) ⟨Nat.le_of_ble_eq_true rfl, Nat.le_of_ble_eq_true rfl⟩) mt_T147 rfl rfl hl.1 rfl (Nat.le_of_ble_eq_true rfl) dX12_house_35 ⟨Nat.zero_le _, Nat.zero_le _⟩) hS (fun H locs hH hS => ?_)
        refine lv_istore_n (lv' := [(1, .int r31), (0, .ref (E.2.1 147))]) hx hb dX12_house_38 rfl hl (by decide) rfl (fun ls hl => ?_)
        refine lv_aload_n hx hb dX12_house_39 rfl (lv_at hl 1 rfl) ?_
        refine lv_dup hx hb dX12_house_40 rfl ?_
        refine mt_geti (C := RX12) (T := TX12) (N := 29) hx hb hts hinX12 hown hI hH mt_T147 rfl 18 (by decide) kw1 rfl rfl dX12_house_41 ?_
        refine lv_iload_n hx hb dX12_house_44 rfl (lv_at hl 0 rfl) ?_
        refine mt_jn1 hf (fun (v33 : Int32) => ∀ (H : Heap) (locs : List Loc) (ls : Array Slot), mt_H E M32 u H → va_S (mt_A E) s.heap H locs → lv_has ls 3 [(0, .ref (E.2.1 147)), (1, .int r31)] → W p l e (headSpec wsX12_house ({ frames := 5, cells := 0, slots := 0, locals := 112 } : Room)).room s mid (([.ref (E.2.1 147)] : List Value).toArray) below meth c0 H locs 0 0 (MQ below (mt_Qi E r M' u) (([.ref (E.2.1 147)] : List Value).toArray) s 0 0 (mt_A E)) (F0 mid 53 ls [.int v33, .int (M32 147 18), .ref (E.2.1 147)])) ?_ ?_
        · intro v33 hf H locs ls hH hS hl
          refine lv_iadd hx hb dX12_house_53 ?_
          refine mt_puti (ty := .int) (C := RX12) (T := TX12) (N := 29) hx hb hts hinX12 tyX12 tyX12_ok nmX12 hown hI hH hS mt_T147 rfl 18 (by decide) kw1 rfl rfl (by decide +kernel) rfl rfl rfl dX12_house_54 (fun H locs hH hS => ?_)
          refine mt_ltI hf (fun M36 eM36 hf => ?_)
          rw [← eM36] at hH
          refine lv_goto (tgt := 12) hx hb dX12_house_57 (by decide) ?_
          exact ih6 r31 M36 hf _ _ _ hH hS (lv_sub hl [0, 1] rfl)
        · intro j34 hj35 hf
          refine lv_if_eq (tgt := 52) hx hb dX12_house_45 (by decide) (fun c37 => ?_) (fun c37 => ?_)
          · have hf := mt_ifT c37 hf
            refine lv_iconst (v := 0) hx hb dX12_house_52 (by decide) ?_
            exact hj35 (0 : Int32) hf _ _ _ hH hS (lv_sub hl [1, 0] rfl)
          · have hf := mt_ifF c37 hf
            refine lv_iconst (v := 1) hx hb dX12_house_48 (by decide) ?_
            refine lv_goto (tgt := 53) hx hb dX12_house_49 (by decide) ?_
            exact hj35 (1 : Int32) hf _ _ _ hH hS (lv_sub hl [1, 0] rfl)
      · intro j28 hj29 hf
        refine lv_icmp_lt (tgt := 34) hx hb dX12_house_24 (by decide) (fun c38 => ?_) (fun c38 => ?_)
        · have hf := mt_ifT c38 hf
          exact hj29 hf _ _ _ hH hS (lv_sub hl [0] rfl)
        · have hf := mt_ifF c38 hf
          refine lv_aload_n hx hb dX12_house_27 rfl (lv_at hl 0 rfl) ?_
          refine mt_geti (C := RX12) (T := TX12) (N := 29) hx hb hts hinX12 hown hI hH mt_T147 rfl 18 (by decide) kw1 rfl rfl dX12_house_28 ?_
          refine lv_if_ne (tgt := 60) hx hb dX12_house_31 (by decide) (fun c39 => ?_) (fun c39 => ?_)
          · have hf := mt_ifF c39 hf
            exact hj8 hf _ _ _ hH hS (lv_sub hl [0, 1] rfl)
          · have hf := mt_ifT c39 hf
            exact hj29 hf _ _ _ hH hS (lv_sub hl [0] rfl)

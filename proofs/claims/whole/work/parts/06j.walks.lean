/-! THE WALKS, laid by program: each method returns what its pure function says, and leaves the memory so -/
set_option maxHeartbeats 4000000 in
set_option maxRecDepth 100000 in
theorem c_X12_thinks (l : Launch) (E : mt_E)  (M : mt_M) (u : mt_U) (M' : mt_M) (hf : f_X12_thinks M = some (M')) : Met l yX12_thinks wsX12_thinks ({ frames := 2, cells := 0, slots := 0, locals := 44 } : Room) (mt_P E [.ref (E.2.1 147)] M u) (mt_Qv E M' u) 0 0 (mt_A E) := by
  refine Met.ofW (cc := cX12_thinks) (maxL := 1) (ret := none) (by decide) rfl ?_
  intro p e s mid args below meth c0 s₁ B hml hv
  obtain ⟨rfl, hI, hH⟩ := hv
  have hx := B.exec
  have hb := B.bytes
  have hr := B.returns
  have hts := atoms_spec (ws := wsX12_thinks) B.pre
  have hown : s.vm.findClass RX12 = some mid.cls := findClass_of_methodNamed B.named
  have hlocks := B.notSynchronized
  have hS : va_S (mt_A E) s.heap s.heap [] := va_S.rf
  have hl := lv_entry ([.ref (E.2.1 147)]) (n := 1) (Nat.le_of_ble_eq_true rfl)
  rw [lg_entry_eq]
  generalize (lg_sl ([.ref (E.2.1 147)]) ++ List.replicate (1 - (lg_sl ([.ref (E.2.1 147)])).length) Slot.unset).toArray = ls at hl ⊢
  have hl : lv_has ls 1 [(0, .ref (E.2.1 147))] := hl
  unfold f_X12_thinks at hf
  refine lv_aload_n hx hb dX12_thinks_0 rfl (lv_at hl 0 rfl) ?_
  refine lv_iconst (v := 2) hx hb dX12_thinks_1 (by decide) ?_
  refine lv_iconst (v := 1) hx hb dX12_thinks_2 (by decide) ?_
  refine mt_b1I hf (fun M2 hg1 hf => ?_)
  refine mt_gov (mt_runV (i := 147) (As := [.int (2 : Int32), .int (1 : Int32)]) (rest := []) ⟨hx, hb, hml, hown, hts⟩ hI hH (c_X12_passesAll l E (2 : Int32) (1 : Int32) M u _ hg1) (cwV 2 hts gX12_thinks_X12_passesAll rfl rfl rfl (by decide +kernel) ⟨Nat.le_of_ble_eq_true rfl, Nat.le_of_ble_eq_true rfl⟩) mt_T147 rfl rfl hl.1 rfl (Nat.le_of_ble_eq_true rfl) dX12_thinks_3 ⟨Nat.zero_le _, Nat.zero_le _⟩) hS (fun H locs hH hS => ?_)
  have i1 := mt_so1 hf
  subst i1
  exact mt_vret hx hb hr hI hH hS hlocks dX12_thinks_6
set_option maxHeartbeats 4000000 in
set_option maxRecDepth 100000 in
theorem c_X12_forgets (l : Launch) (E : mt_E)  (M : mt_M) (u : mt_U) (M' : mt_M) (hf : f_X12_forgets M = some (M')) : Met l yX12_forgets wsX12_forgets ({ frames := 2, cells := 0, slots := 0, locals := 44 } : Room) (mt_P E [.ref (E.2.1 147)] M u) (mt_Qv E M' u) 0 0 (mt_A E) := by
  refine Met.ofW (cc := cX12_forgets) (maxL := 1) (ret := none) (by decide) rfl ?_
  intro p e s mid args below meth c0 s₁ B hml hv
  obtain ⟨rfl, hI, hH⟩ := hv
  have hx := B.exec
  have hb := B.bytes
  have hr := B.returns
  have hts := atoms_spec (ws := wsX12_forgets) B.pre
  have hown : s.vm.findClass RX12 = some mid.cls := findClass_of_methodNamed B.named
  have hlocks := B.notSynchronized
  have hS : va_S (mt_A E) s.heap s.heap [] := va_S.rf
  have hl := lv_entry ([.ref (E.2.1 147)]) (n := 1) (Nat.le_of_ble_eq_true rfl)
  rw [lg_entry_eq]
  generalize (lg_sl ([.ref (E.2.1 147)]) ++ List.replicate (1 - (lg_sl ([.ref (E.2.1 147)])).length) Slot.unset).toArray = ls at hl ⊢
  have hl : lv_has ls 1 [(0, .ref (E.2.1 147))] := hl
  unfold f_X12_forgets at hf
  refine lv_aload_n hx hb dX12_forgets_0 rfl (lv_at hl 0 rfl) ?_
  refine lv_iconst (v := 2) hx hb dX12_forgets_1 (by decide) ?_
  refine lv_iconst (v := 0) hx hb dX12_forgets_2 (by decide) ?_
  refine mt_b1I hf (fun M2 hg1 hf => ?_)
  refine mt_gov (mt_runV (i := 147) (As := [.int (2 : Int32), .int (0 : Int32)]) (rest := []) ⟨hx, hb, hml, hown, hts⟩ hI hH (c_X12_passesAll l E (2 : Int32) (0 : Int32) M u _ hg1) (cwV 2 hts gX12_forgets_X12_passesAll rfl rfl rfl (by decide +kernel) ⟨Nat.le_of_ble_eq_true rfl, Nat.le_of_ble_eq_true rfl⟩) mt_T147 rfl rfl hl.1 rfl (Nat.le_of_ble_eq_true rfl) dX12_forgets_3 ⟨Nat.zero_le _, Nat.zero_le _⟩) hS (fun H locs hH hS => ?_)
  have i1 := mt_so1 hf
  subst i1
  exact mt_vret hx hb hr hI hH hS hlocks dX12_forgets_6
set_option maxHeartbeats 4000000 in
set_option maxRecDepth 100000 in
theorem c_X12_keepsBack (l : Launch) (E : mt_E)  (M : mt_M) (u : mt_U) (M' : mt_M) (hf : f_X12_keepsBack M = some (M')) : Met l yX12_keepsBack wsX12_keepsBack ({ frames := 2, cells := 0, slots := 0, locals := 44 } : Room) (mt_P E [.ref (E.2.1 147)] M u) (mt_Qv E M' u) 0 0 (mt_A E) := by
  refine Met.ofW (cc := cX12_keepsBack) (maxL := 2) (ret := none) (by decide) rfl ?_
  intro p e s mid args below meth c0 s₁ B hml hv
  obtain ⟨rfl, hI, hH⟩ := hv
  have hx := B.exec
  have hb := B.bytes
  have hr := B.returns
  have hts := atoms_spec (ws := wsX12_keepsBack) B.pre
  have hown : s.vm.findClass RX12 = some mid.cls := findClass_of_methodNamed B.named
  have hlocks := B.notSynchronized
  have hS : va_S (mt_A E) s.heap s.heap [] := va_S.rf
  have hl := lv_entry ([.ref (E.2.1 147)]) (n := 2) (Nat.le_of_ble_eq_true rfl)
  rw [lg_entry_eq]
  generalize (lg_sl ([.ref (E.2.1 147)]) ++ List.replicate (2 - (lg_sl ([.ref (E.2.1 147)])).length) Slot.unset).toArray = ls at hl ⊢
  have hl : lv_has ls 2 [(0, .ref (E.2.1 147))] := hl
  unfold f_X12_keepsBack at hf
  have kw0 := hts (.fieldLink RX12 153 "MilkTwiceModel" "backs" "I") (List.mem_of_getElem? (i := 1) rfl)
  have kw1 := hts (.fieldLink RX12 46 "MilkTwiceModel" "kept" "[I") (List.mem_of_getElem? (i := 2) rfl)
  have hinX12 : ∀ w ∈ u_ws RX12 TX12 29, w ∈ wsX12_keepsBack := fun w h => List.mem_cons_of_mem _ (List.mem_append_right _ h)
  refine lv_aload_n hx hb dX12_keepsBack_0 rfl (lv_at hl 0 rfl) ?_
  refine mt_geti (C := RX12) (T := TX12) (N := 29) hx hb hts hinX12 hown hI hH mt_T147 rfl 23 (by decide) kw0 rfl rfl dX12_keepsBack_1 ?_
  refine lv_bipush (v := 8) hx hb dX12_keepsBack_4 (by decide) ?_
  refine mt_jn1 hf (fun (M1 : mt_M) => ∀ (H : Heap) (locs : List Loc) (ls : Array Slot), mt_H E M1 u H → va_S (mt_A E) s.heap H locs → lv_has ls 2 [(0, .ref (E.2.1 147))] → W p l e (headSpec wsX12_keepsBack ({ frames := 2, cells := 0, slots := 0, locals := 44 } : Room)).room s mid (([.ref (E.2.1 147)] : List Value).toArray) below meth c0 H locs 0 0 (MQ below (mt_Qv E M' u) (([.ref (E.2.1 147)] : List Value).toArray) s 0 0 (mt_A E)) (F0 mid 51 ls [])) ?_ ?_
  · intro M1 hf H locs ls hH hS hl
    refine lv_aload_n hx hb dX12_keepsBack_51 rfl (lv_at hl 0 rfl) ?_
    refine lv_iconst (v := 3) hx hb dX12_keepsBack_52 (by decide) ?_
    refine lv_aload_n hx hb dX12_keepsBack_53 rfl (lv_at hl 0 rfl) ?_
    refine mt_geti (C := RX12) (T := TX12) (N := 29) hx hb hts hinX12 hown hI hH mt_T147 rfl 23 (by decide) kw0 rfl rfl dX12_keepsBack_54 ?_
    refine lv_iadd hx hb dX12_keepsBack_57 ?_
    refine lv_iconst (v := 1) hx hb dX12_keepsBack_58 (by decide) ?_
    refine mt_b1I hf (fun M5 hg4 hf => ?_)
    refine mt_gov (mt_runV (i := 147) (As := [.int ((3 : Int32) + (M1 147 23)), .int (1 : Int32)]) (rest := []) ⟨hx, hb, hml, hown, hts⟩ hI hH (c_X12_passesAll l E ((3 : Int32) + (M1 147 23)) (1 : Int32) M1 u _ hg4) (cwV 2 hts gX12_keepsBack_X12_passesAll rfl rfl rfl (by decide +kernel) ⟨Nat.le_of_ble_eq_true rfl, Nat.le_of_ble_eq_true rfl⟩) mt_T147 rfl rfl hl.1 rfl (Nat.le_of_ble_eq_true rfl) dX12_keepsBack_59 ⟨Nat.zero_le _, Nat.zero_le _⟩) hS (fun H locs hH hS => ?_)
    refine lv_aload_n hx hb dX12_keepsBack_62 rfl (lv_at hl 0 rfl) ?_
    refine lv_dup hx hb dX12_keepsBack_63 rfl ?_
    refine mt_geti (C := RX12) (T := TX12) (N := 29) hx hb hts hinX12 hown hI hH mt_T147 rfl 23 (by decide) kw0 rfl rfl dX12_keepsBack_64 ?_
    refine lv_iconst (v := 1) hx hb dX12_keepsBack_67 (by decide) ?_
    refine lv_iadd hx hb dX12_keepsBack_68 ?_
    refine mt_puti (ty := .int) (C := RX12) (T := TX12) (N := 29) hx hb hts hinX12 tyX12 tyX12_ok nmX12 hown hI hH hS mt_T147 rfl 23 (by decide) kw0 rfl rfl (by decide +kernel) rfl rfl rfl dX12_keepsBack_69 (fun H locs hH hS => ?_)
    refine mt_ltI hf (fun M6 eM6 hf => ?_)
    rw [← eM6] at hH
    have i1 := mt_so1 hf
    subst i1
    exact mt_vret hx hb hr hI hH hS hlocks dX12_keepsBack_72
  · intro j2 hj3 hf
    refine lv_icmp_ne (tgt := 51) hx hb dX12_keepsBack_6 (by decide) (fun c7 => ?_) (fun c7 => ?_)
    · have hf := mt_ifF c7 hf
      exact hj3 M hf _ _ _ hH hS (lv_sub hl [0] rfl)
    · have hf := mt_ifT c7 hf
      refine lv_sipush (v := 195) hx hb dX12_keepsBack_9 (by decide) ?_
      refine lv_istore_n (lv' := [(1, .int (195 : Int32)), (0, .ref (E.2.1 147))]) hx hb dX12_keepsBack_12 rfl hl (by decide) rfl (fun ls hl => ?_)
      refine mt_lpI2 hf (fun (x8 : Int32) (M9 : mt_M) => ∀ (H : Heap) (locs : List Loc) (ls : Array Slot), mt_H E M9 u H → va_S (mt_A E) s.heap H locs → lv_has ls 2 [(0, .ref (E.2.1 147)), (1, .int x8)] → W p l e (headSpec wsX12_keepsBack ({ frames := 2, cells := 0, slots := 0, locals := 44 } : Room)).room s mid (([.ref (E.2.1 147)] : List Value).toArray) below meth c0 H locs 0 0 (MQ below (mt_Qv E M' u) (([.ref (E.2.1 147)] : List Value).toArray) s 0 0 (mt_A E)) (F0 mid 13 ls [])) ?_ _ _ _ hH hS (lv_sub hl [1, 0] rfl)
      intro k10 ih11 x8 M9 hf H locs ls hH hS hl
      refine lv_iload_n hx hb dX12_keepsBack_13 rfl (lv_at hl 1 rfl) ?_
      refine lv_sipush (v := 650) hx hb dX12_keepsBack_14 (by decide) ?_
      refine lv_icmp_ge (tgt := 41) hx hb dX12_keepsBack_17 (by decide) (fun c12 => ?_) (fun c12 => ?_)
      · have hf := mt_ifT c12 hf
        refine lv_aload_n hx hb dX12_keepsBack_41 rfl (lv_at hl 0 rfl) ?_
        refine lv_dup hx hb dX12_keepsBack_42 rfl ?_
        refine mt_geti (C := RX12) (T := TX12) (N := 29) hx hb hts hinX12 hown hI hH mt_T147 rfl 23 (by decide) kw0 rfl rfl dX12_keepsBack_43 ?_
        refine lv_iconst (v := 1) hx hb dX12_keepsBack_46 (by decide) ?_
        refine lv_isub hx hb dX12_keepsBack_47 ?_
        refine mt_puti (ty := .int) (C := RX12) (T := TX12) (N := 29) hx hb hts hinX12 tyX12 tyX12_ok nmX12 hown hI hH hS mt_T147 rfl 23 (by decide) kw0 rfl rfl (by decide +kernel) rfl rfl rfl dX12_keepsBack_48 (fun H locs hH hS => ?_)
        refine mt_ltI hf (fun M13 eM13 hf => ?_)
        rw [← eM13] at hH
        exact hj3 M13 hf _ _ _ hH hS (lv_sub hl [0] rfl)
      · have hf := mt_ifF c12 hf
        refine lv_aload_n hx hb dX12_keepsBack_20 rfl (lv_at hl 0 rfl) ?_
        refine mt_getr (C := RX12) (T := TX12) (N := 29) hx hb hts hinX12 hown hI hH mt_T147 rfl 19 (by decide) kw1 rfl rfl dX12_keepsBack_21 ?_
        refine lv_iload_n hx hb dX12_keepsBack_24 rfl (lv_at hl 1 rfl) ?_
        refine lv_aload_n hx hb dX12_keepsBack_25 rfl (lv_at hl 0 rfl) ?_
        refine mt_getr (C := RX12) (T := TX12) (N := 29) hx hb hts hinX12 hown hI hH mt_T147 rfl 19 (by decide) kw1 rfl rfl dX12_keepsBack_26 ?_
        refine lv_iload_n hx hb dX12_keepsBack_29 rfl (lv_at hl 1 rfl) ?_
        refine lv_bipush (v := 65) hx hb dX12_keepsBack_30 (by decide) ?_
        refine lv_iadd hx hb dX12_keepsBack_32 ?_
        refine mt_ciI hf (fun q14 hf => ?_)
        refine mt_iald hx hb hI hH mt_T160 q14 dX12_keepsBack_33 ?_
        refine mt_ciI hf (fun q16 hf => ?_)
        refine mt_iast hx hb hI hH hS mt_T160 q16 dX12_keepsBack_34 (fun H locs hH hS => ?_)
        refine mt_ltI hf (fun M15 eM15 hf => ?_)
        rw [← eM15] at hH
        refine mt_ltI hf (fun x17 ex17 hf => ?_)
        refine lv_iinc (v := x17) (lv' := [(1, .int x17), (0, .ref (E.2.1 147))]) hx hb dX12_keepsBack_35 hl (k := 1) rfl (by rw [ex17]; rfl) (by decide) rfl (fun ls hl => ?_)
        refine lv_goto (tgt := 13) hx hb dX12_keepsBack_38 (by decide) ?_
        exact ih11 x17 M15 hf _ _ _ hH hS (lv_sub hl [1, 0] rfl)
set_option maxHeartbeats 4000000 in
set_option maxRecDepth 100000 in
theorem c_X12_back (l : Launch) (E : mt_E)  (M : mt_M) (u : mt_U) (r : Int32) (M' : mt_M) (hf : f_X12_back M = some (r, M')) : Met l yX12_back wsX12_back ({ frames := 2, cells := 0, slots := 0, locals := 44 } : Room) (mt_P E [.ref (E.2.1 147)] M u) (mt_Qi E r M' u) 0 0 (mt_A E) := by
  refine Met.ofW (cc := cX12_back) (maxL := 1) (ret := (some .int)) (by decide) rfl ?_
  intro p e s mid args below meth c0 s₁ B hml hv
  obtain ⟨rfl, hI, hH⟩ := hv
  have hx := B.exec
  have hb := B.bytes
  have hr := B.returns
  have hts := atoms_spec (ws := wsX12_back) B.pre
  have hown : s.vm.findClass RX12 = some mid.cls := findClass_of_methodNamed B.named
  have hlocks := B.notSynchronized
  have hS : va_S (mt_A E) s.heap s.heap [] := va_S.rf
  have hl := lv_entry ([.ref (E.2.1 147)]) (n := 1) (Nat.le_of_ble_eq_true rfl)
  rw [lg_entry_eq]
  generalize (lg_sl ([.ref (E.2.1 147)]) ++ List.replicate (1 - (lg_sl ([.ref (E.2.1 147)])).length) Slot.unset).toArray = ls at hl ⊢
  have hl : lv_has ls 1 [(0, .ref (E.2.1 147))] := hl
  unfold f_X12_back at hf
  have kw0 := hts (.fieldLink RX12 153 "MilkTwiceModel" "backs" "I") (List.mem_of_getElem? (i := 1) rfl)
  have hinX12 : ∀ w ∈ u_ws RX12 TX12 29, w ∈ wsX12_back := fun w h => List.mem_cons_of_mem _ (List.mem_append_right _ h)
  refine lv_aload_n hx hb dX12_back_0 rfl (lv_at hl 0 rfl) ?_
  refine mt_geti (C := RX12) (T := TX12) (N := 29) hx hb hts hinX12 hown hI hH mt_T147 rfl 23 (by decide) kw0 rfl rfl dX12_back_1 ?_
  refine lv_if_ne (tgt := 14) hx hb dX12_back_4 (by decide) (fun c1 => ?_) (fun c1 => ?_)
  · have hf := mt_ifF c1 hf
    refine lv_aload_n hx hb dX12_back_14 rfl (lv_at hl 0 rfl) ?_
    refine lv_dup hx hb dX12_back_15 rfl ?_
    refine mt_geti (C := RX12) (T := TX12) (N := 29) hx hb hts hinX12 hown hI hH mt_T147 rfl 23 (by decide) kw0 rfl rfl dX12_back_16 ?_
    refine lv_iconst (v := 1) hx hb dX12_back_19 (by decide) ?_
    refine lv_isub hx hb dX12_back_20 ?_
    refine mt_puti (ty := .int) (C := RX12) (T := TX12) (N := 29) hx hb hts hinX12 tyX12 tyX12_ok nmX12 hown hI hH hS mt_T147 rfl 23 (by decide) kw0 rfl rfl (by decide +kernel) rfl rfl rfl dX12_back_21 (fun H locs hH hS => ?_)
    refine mt_ltI hf (fun M2 eM2 hf => ?_)
    rw [← eM2] at hH
    refine lv_aload_n hx hb dX12_back_24 rfl (lv_at hl 0 rfl) ?_
    refine lv_iconst (v := 3) hx hb dX12_back_25 (by decide) ?_
    refine lv_aload_n hx hb dX12_back_26 rfl (lv_at hl 0 rfl) ?_
    refine mt_geti (C := RX12) (T := TX12) (N := 29) hx hb hts hinX12 hown hI hH mt_T147 rfl 23 (by decide) kw0 rfl rfl dX12_back_27 ?_
    refine lv_iadd hx hb dX12_back_30 ?_
    refine lv_iconst (v := 0) hx hb dX12_back_31 (by decide) ?_
    refine mt_b1I hf (fun M4 hg3 hf => ?_)
    refine mt_gov (mt_runV (i := 147) (As := [.int ((3 : Int32) + (M2 147 23)), .int (0 : Int32)]) (rest := []) ⟨hx, hb, hml, hown, hts⟩ hI hH (c_X12_passesAll l E ((3 : Int32) + (M2 147 23)) (0 : Int32) M2 u _ hg3) (cwV 2 hts gX12_back_X12_passesAll rfl rfl rfl (by decide +kernel) ⟨Nat.le_of_ble_eq_true rfl, Nat.le_of_ble_eq_true rfl⟩) mt_T147 rfl rfl hl.1 rfl (Nat.le_of_ble_eq_true rfl) dX12_back_32 ⟨Nat.zero_le _, Nat.zero_le _⟩) hS (fun H locs hH hS => ?_)
    refine lv_aload_n hx hb dX12_back_35 rfl (lv_at hl 0 rfl) ?_
    refine mt_geti (C := RX12) (T := TX12) (N := 29) hx hb hts hinX12 hown hI hH mt_T147 rfl 23 (by decide) kw0 rfl rfl dX12_back_36 ?_
    obtain ⟨i1, i2⟩ := mt_so2 hf
    subst i1
    subst i2
    exact mt_iret hx hb hr hI hH hS hlocks dX12_back_39
  · have hf := mt_ifT c1 hf
    refine lv_aload_n hx hb dX12_back_7 rfl (lv_at hl 0 rfl) ?_
    refine lv_bipush (v := (-3)) hx hb dX12_back_8 (by decide) ?_
    refine mt_b2I hf (fun r6 M7 hg5 hf => ?_)
    refine mt_goi (mt_runV (i := 147) (As := [.int (-3 : Int32)]) (rest := []) ⟨hx, hb, hml, hown, hts⟩ hI hH (c_X12_no l E (-3 : Int32) M u _ _ hg5) (cwV 1 hts gX12_back_X12_no rfl rfl rfl (by decide +kernel) ⟨Nat.le_of_ble_eq_true rfl, Nat.le_of_ble_eq_true rfl⟩) mt_T147 rfl rfl hl.1 rfl (Nat.le_of_ble_eq_true rfl) dX12_back_10 ⟨Nat.zero_le _, Nat.zero_le _⟩) hS (fun H locs hH hS => ?_)
    obtain ⟨i1, i2⟩ := mt_so2 hf
    subst i1
    subst i2
    exact mt_iret hx hb hr hI hH hS hlocks dX12_back_13
set_option maxHeartbeats 4000000 in
set_option maxRecDepth 100000 in
theorem c_X12_image (l : Launch) (E : mt_E)  (M : mt_M) (u : mt_U) (r : Int32) (M' : mt_M) (hf : f_X12_image M = some (r, M')) : Met l yX12_image wsX12_image ({ frames := 2, cells := 0, slots := 0, locals := 44 } : Room) (mt_P E [.ref (E.2.1 147)] M u) (mt_Qi E r M' u) 0 0 (mt_A E) := by
  refine Met.ofW (cc := cX12_image) (maxL := 1) (ret := (some .int)) (by decide) rfl ?_
  intro p e s mid args below meth c0 s₁ B hml hv
  obtain ⟨rfl, hI, hH⟩ := hv
  have hx := B.exec
  have hb := B.bytes
  have hr := B.returns
  have hts := atoms_spec (ws := wsX12_image) B.pre
  have hown : s.vm.findClass RX12 = some mid.cls := findClass_of_methodNamed B.named
  have hlocks := B.notSynchronized
  have hS : va_S (mt_A E) s.heap s.heap [] := va_S.rf
  have hl := lv_entry ([.ref (E.2.1 147)]) (n := 1) (Nat.le_of_ble_eq_true rfl)
  rw [lg_entry_eq]
  generalize (lg_sl ([.ref (E.2.1 147)]) ++ List.replicate (1 - (lg_sl ([.ref (E.2.1 147)])).length) Slot.unset).toArray = ls at hl ⊢
  have hl : lv_has ls 1 [(0, .ref (E.2.1 147))] := hl
  unfold f_X12_image at hf
  have kw0 := hts (.fieldLink RX12 170 "MilkTwiceModel" "hasImage" "Z") (List.mem_of_getElem? (i := 1) rfl)
  have kw1 := hts (.fieldLink RX12 110 "MilkTwiceModel" "now" "I") (List.mem_of_getElem? (i := 2) rfl)
  have hinX12 : ∀ w ∈ u_ws RX12 TX12 29, w ∈ wsX12_image := fun w h => List.mem_cons_of_mem _ (List.mem_append_right _ h)
  refine lv_aload_n hx hb dX12_image_0 rfl (lv_at hl 0 rfl) ?_
  refine lv_iconst (v := 1) hx hb dX12_image_1 (by decide) ?_
  refine mt_puti (ty := .boolean) (C := RX12) (T := TX12) (N := 29) hx hb hts hinX12 tyX12 tyX12_ok nmX12 hown hI hH hS mt_T147 rfl 20 (by decide) kw0 rfl rfl (by decide +kernel) rfl rfl rfl dX12_image_2 (fun H locs hH hS => ?_)
  refine mt_ltI hf (fun M1 eM1 hf => ?_)
  rw [← eM1] at hH
  refine lv_aload_n hx hb dX12_image_5 rfl (lv_at hl 0 rfl) ?_
  refine lv_iconst (v := 0) hx hb dX12_image_6 (by decide) ?_
  refine lv_iconst (v := 1) hx hb dX12_image_7 (by decide) ?_
  refine mt_b1I hf (fun M3 hg2 hf => ?_)
  refine mt_gov (mt_runV (i := 147) (As := [.int (0 : Int32), .int (1 : Int32)]) (rest := []) ⟨hx, hb, hml, hown, hts⟩ hI hH (c_X12_passesAll l E (0 : Int32) (1 : Int32) M1 u _ hg2) (cwV 2 hts gX12_image_X12_passesAll rfl rfl rfl (by decide +kernel) ⟨Nat.le_of_ble_eq_true rfl, Nat.le_of_ble_eq_true rfl⟩) mt_T147 rfl rfl hl.1 rfl (Nat.le_of_ble_eq_true rfl) dX12_image_8 ⟨Nat.zero_le _, Nat.zero_le _⟩) hS (fun H locs hH hS => ?_)
  refine lv_aload_n hx hb dX12_image_11 rfl (lv_at hl 0 rfl) ?_
  refine mt_geti (C := RX12) (T := TX12) (N := 29) hx hb hts hinX12 hown hI hH mt_T147 rfl 9 (by decide) kw1 rfl rfl dX12_image_12 ?_
  obtain ⟨i1, i2⟩ := mt_so2 hf
  subst i1
  subst i2
  exact mt_iret hx hb hr hI hH hS hlocks dX12_image_15
set_option maxHeartbeats 4000000 in
set_option maxRecDepth 100000 in
theorem c_X12_restore (l : Launch) (E : mt_E)  (M : mt_M) (u : mt_U) (r : Int32) (M' : mt_M) (hf : f_X12_restore M = some (r, M')) : Met l yX12_restore wsX12_restore ({ frames := 2, cells := 0, slots := 0, locals := 44 } : Room) (mt_P E [.ref (E.2.1 147)] M u) (mt_Qi E r M' u) 0 0 (mt_A E) := by
  refine Met.ofW (cc := cX12_restore) (maxL := 1) (ret := (some .int)) (by decide) rfl ?_
  intro p e s mid args below meth c0 s₁ B hml hv
  obtain ⟨rfl, hI, hH⟩ := hv
  have hx := B.exec
  have hb := B.bytes
  have hr := B.returns
  have hts := atoms_spec (ws := wsX12_restore) B.pre
  have hown : s.vm.findClass RX12 = some mid.cls := findClass_of_methodNamed B.named
  have hlocks := B.notSynchronized
  have hS : va_S (mt_A E) s.heap s.heap [] := va_S.rf
  have hl := lv_entry ([.ref (E.2.1 147)]) (n := 1) (Nat.le_of_ble_eq_true rfl)
  rw [lg_entry_eq]
  generalize (lg_sl ([.ref (E.2.1 147)]) ++ List.replicate (1 - (lg_sl ([.ref (E.2.1 147)])).length) Slot.unset).toArray = ls at hl ⊢
  have hl : lv_has ls 1 [(0, .ref (E.2.1 147))] := hl
  unfold f_X12_restore at hf
  have kw0 := hts (.fieldLink RX12 170 "MilkTwiceModel" "hasImage" "Z") (List.mem_of_getElem? (i := 1) rfl)
  have kw1 := hts (.fieldLink RX12 153 "MilkTwiceModel" "backs" "I") (List.mem_of_getElem? (i := 2) rfl)
  have kw2 := hts (.fieldLink RX12 110 "MilkTwiceModel" "now" "I") (List.mem_of_getElem? (i := 3) rfl)
  have hinX12 : ∀ w ∈ u_ws RX12 TX12 29, w ∈ wsX12_restore := fun w h => List.mem_cons_of_mem _ (List.mem_append_right _ h)
  refine lv_aload_n hx hb dX12_restore_0 rfl (lv_at hl 0 rfl) ?_
  refine mt_geti (C := RX12) (T := TX12) (N := 29) hx hb hts hinX12 hown hI hH mt_T147 rfl 20 (by decide) kw0 rfl rfl dX12_restore_1 ?_
  refine lv_if_ne (tgt := 14) hx hb dX12_restore_4 (by decide) (fun c1 => ?_) (fun c1 => ?_)
  · have hf := mt_ifF c1 hf
    refine lv_aload_n hx hb dX12_restore_14 rfl (lv_at hl 0 rfl) ?_
    refine lv_iconst (v := 0) hx hb dX12_restore_15 (by decide) ?_
    refine lv_iconst (v := 0) hx hb dX12_restore_16 (by decide) ?_
    refine mt_b1I hf (fun M3 hg2 hf => ?_)
    refine mt_gov (mt_runV (i := 147) (As := [.int (0 : Int32), .int (0 : Int32)]) (rest := []) ⟨hx, hb, hml, hown, hts⟩ hI hH (c_X12_passesAll l E (0 : Int32) (0 : Int32) M u _ hg2) (cwV 2 hts gX12_restore_X12_passesAll rfl rfl rfl (by decide +kernel) ⟨Nat.le_of_ble_eq_true rfl, Nat.le_of_ble_eq_true rfl⟩) mt_T147 rfl rfl hl.1 rfl (Nat.le_of_ble_eq_true rfl) dX12_restore_17 ⟨Nat.zero_le _, Nat.zero_le _⟩) hS (fun H locs hH hS => ?_)
    refine lv_aload_n hx hb dX12_restore_20 rfl (lv_at hl 0 rfl) ?_
    refine lv_iconst (v := 0) hx hb dX12_restore_21 (by decide) ?_
    refine mt_puti (ty := .int) (C := RX12) (T := TX12) (N := 29) hx hb hts hinX12 tyX12 tyX12_ok nmX12 hown hI hH hS mt_T147 rfl 23 (by decide) kw1 rfl rfl (by decide +kernel) rfl rfl rfl dX12_restore_22 (fun H locs hH hS => ?_)
    refine mt_ltI hf (fun M4 eM4 hf => ?_)
    rw [← eM4] at hH
    refine lv_aload_n hx hb dX12_restore_25 rfl (lv_at hl 0 rfl) ?_
    refine mt_geti (C := RX12) (T := TX12) (N := 29) hx hb hts hinX12 hown hI hH mt_T147 rfl 9 (by decide) kw2 rfl rfl dX12_restore_26 ?_
    obtain ⟨i1, i2⟩ := mt_so2 hf
    subst i1
    subst i2
    exact mt_iret hx hb hr hI hH hS hlocks dX12_restore_29
  · have hf := mt_ifT c1 hf
    refine lv_aload_n hx hb dX12_restore_7 rfl (lv_at hl 0 rfl) ?_
    refine lv_bipush (v := (-3)) hx hb dX12_restore_8 (by decide) ?_
    refine mt_b2I hf (fun r6 M7 hg5 hf => ?_)
    refine mt_goi (mt_runV (i := 147) (As := [.int (-3 : Int32)]) (rest := []) ⟨hx, hb, hml, hown, hts⟩ hI hH (c_X12_no l E (-3 : Int32) M u _ _ hg5) (cwV 1 hts gX12_restore_X12_no rfl rfl rfl (by decide +kernel) ⟨Nat.le_of_ble_eq_true rfl, Nat.le_of_ble_eq_true rfl⟩) mt_T147 rfl rfl hl.1 rfl (Nat.le_of_ble_eq_true rfl) dX12_restore_10 ⟨Nat.zero_le _, Nat.zero_le _⟩) hS (fun H locs hH hS => ?_)
    obtain ⟨i1, i2⟩ := mt_so2 hf
    subst i1
    subst i2
    exact mt_iret hx hb hr hI hH hS hlocks dX12_restore_13
set_option maxHeartbeats 4000000 in
set_option maxRecDepth 100000 in
theorem c_X12_harmOf (l : Launch) (E : mt_E) (a1 : Int32) (a2 : Int32) (M : mt_M) (u : mt_U) (r : Int32) (hf : f_X12_harmOf a1 a2 M = some (r)) : Met l yX12_harmOf wsX12_harmOf ({ frames := 1, cells := 0, slots := 0, locals := 22 } : Room) (mt_P E [.ref (E.2.1 147), .int a1, .int a2] M u) (mt_Qi E r M u) 0 0 (mt_A E) := by
  refine Met.ofW (cc := cX12_harmOf) (maxL := 3) (ret := (some .int)) (by decide) rfl ?_
  intro p e s mid args below meth c0 s₁ B hml hv
  obtain ⟨rfl, hI, hH⟩ := hv
  have hx := B.exec
  have hb := B.bytes
  have hr := B.returns
  have hts := atoms_spec (ws := wsX12_harmOf) B.pre
  have hown : s.vm.findClass RX12 = some mid.cls := findClass_of_methodNamed B.named
  have hlocks := B.notSynchronized
  have hS : va_S (mt_A E) s.heap s.heap [] := va_S.rf
  have hl := lv_entry ([.ref (E.2.1 147), .int a1, .int a2]) (n := 3) (Nat.le_of_ble_eq_true rfl)
  rw [lg_entry_eq]
  generalize (lg_sl ([.ref (E.2.1 147), .int a1, .int a2]) ++ List.replicate (3 - (lg_sl ([.ref (E.2.1 147), .int a1, .int a2])).length) Slot.unset).toArray = ls at hl ⊢
  have hl : lv_has ls 3 [(0, .ref (E.2.1 147)), (1, .int a1), (2, .int a2)] := hl
  unfold f_X12_harmOf at hf
  have kw0 := hts (.fieldLink RX12 13 "MilkTwiceModel" "kind" "[I") (List.mem_of_getElem? (i := 2) rfl)
  have kw1 := hts (.fieldLink RX12 19 "MilkTwiceModel" "use" "[I") (List.mem_of_getElem? (i := 1) rfl)
  have hinX12 : ∀ w ∈ u_ws RX12 TX12 29, w ∈ wsX12_harmOf := fun w h => List.mem_cons_of_mem _ (List.mem_append_right _ h)
  refine lv_iload_n hx hb dX12_harmOf_0 rfl (lv_at hl 2 rfl) ?_
  refine lv_iconst (v := 2) hx hb dX12_harmOf_1 (by decide) ?_
  refine lv_icmp_ge (tgt := 22) hx hb dX12_harmOf_2 (by decide) (fun c1 => ?_) (fun c1 => ?_)
  · have hf := mt_ifT c1 hf
    refine lv_aload_n hx hb dX12_harmOf_22 rfl (lv_at hl 0 rfl) ?_
    refine mt_getr (C := RX12) (T := TX12) (N := 29) hx hb hts hinX12 hown hI hH mt_T147 rfl 1 (by decide) kw0 rfl rfl dX12_harmOf_23 ?_
    refine lv_iload_n hx hb dX12_harmOf_26 rfl (lv_at hl 1 rfl) ?_
    refine mt_ciI hf (fun q2 hf => ?_)
    refine mt_iald hx hb hI hH mt_T149 q2 dX12_harmOf_27 ?_
    refine mt_lti hf (fun x3 ex3 hf => ?_)
    by_cases c4 : x3 = (0 : Int32)
    · have hf := mt_ifT c4 hf
      refine lv_tableIn (off := 40) (tgt := 68) hx hb dX12_harmOf_28 (by rw [c4]; decide) (by rw [c4]; decide) (by rw [c4]; rfl) (by decide) ?_
      refine lv_aload_n hx hb dX12_harmOf_68 rfl (lv_at hl 0 rfl) ?_
      refine lv_iload_n hx hb dX12_harmOf_69 rfl (lv_at hl 1 rfl) ?_
      refine mt_b1I hf (fun r6 hg5 hf => ?_)
      refine mt_goi (mt_runV (i := 147) (As := [.int a1]) (rest := []) ⟨hx, hb, hml, hown, hts⟩ hI hH (c_X12_priceOf l E a1 M u _ hg5) (cwV 1 hts gX12_harmOf_X12_priceOf rfl rfl rfl (by decide +kernel) ⟨Nat.le_of_ble_eq_true rfl, Nat.le_of_ble_eq_true rfl⟩) mt_T147 rfl rfl hl.1 rfl (Nat.le_of_ble_eq_true rfl) dX12_harmOf_70 ⟨Nat.zero_le _, Nat.zero_le _⟩) hS (fun H locs hH hS => ?_)
      have i1 := mt_so1 hf
      subst i1
      exact mt_iret hx hb hr hI hH hS hlocks dX12_harmOf_73
    · have hf := mt_ifF c4 hf
      by_cases c7 : x3 = (1 : Int32)
      · have hf := mt_ifT c7 hf
        refine lv_tableIn (off := 58) (tgt := 86) hx hb dX12_harmOf_28 (by rw [c7]; decide) (by rw [c7]; decide) (by rw [c7]; rfl) (by decide) ?_
        refine lv_iconst (v := 2) hx hb dX12_harmOf_86 (by decide) ?_
        refine lv_aload_n hx hb dX12_harmOf_87 rfl (lv_at hl 0 rfl) ?_
        refine lv_iload_n hx hb dX12_harmOf_88 rfl (lv_at hl 1 rfl) ?_
        refine mt_b1I hf (fun r9 hg8 hf => ?_)
        refine mt_goi (mt_runV (i := 147) (As := [.int a1]) (rest := [.int (2 : Int32)]) ⟨hx, hb, hml, hown, hts⟩ hI hH (c_X12_priceOf l E a1 M u _ hg8) (cwV 1 hts gX12_harmOf_X12_priceOf rfl rfl rfl (by decide +kernel) ⟨Nat.le_of_ble_eq_true rfl, Nat.le_of_ble_eq_true rfl⟩) mt_T147 rfl rfl hl.1 rfl (Nat.le_of_ble_eq_true rfl) dX12_harmOf_89 ⟨Nat.zero_le _, Nat.zero_le _⟩) hS (fun H locs hH hS => ?_)
        refine lv_imul hx hb dX12_harmOf_92 ?_
        have i1 := mt_so1 hf
        subst i1
        exact mt_iret hx hb hr hI hH hS hlocks dX12_harmOf_93
      · have hf := mt_ifF c7 hf
        by_cases c10 : x3 = (2 : Int32)
        · have hf := mt_ifT c10 hf
          refine lv_tableIn (off := 56) (tgt := 84) hx hb dX12_harmOf_28 (by rw [c10]; decide) (by rw [c10]; decide) (by rw [c10]; rfl) (by decide) ?_
          refine lv_iconst (v := 0) hx hb dX12_harmOf_84 (by decide) ?_
          have i1 := mt_so1 hf
          subst i1
          exact mt_iret hx hb hr hI hH hS hlocks dX12_harmOf_85
        · have hf := mt_ifF c10 hf
          by_cases c11 : x3 = (3 : Int32)
          · have hf := mt_ifT c11 hf
            refine lv_tableIn (off := 46) (tgt := 74) hx hb dX12_harmOf_28 (by rw [c11]; decide) (by rw [c11]; decide) (by rw [c11]; rfl) (by decide) ?_
            refine lv_aload_n hx hb dX12_harmOf_74 rfl (lv_at hl 0 rfl) ?_
            refine lv_iload_n hx hb dX12_harmOf_75 rfl (lv_at hl 1 rfl) ?_
            refine mt_b1I hf (fun r13 hg12 hf => ?_)
            refine mt_goi (mt_runV (i := 147) (As := [.int a1]) (rest := []) ⟨hx, hb, hml, hown, hts⟩ hI hH (c_X12_priceOf l E a1 M u _ hg12) (cwV 1 hts gX12_harmOf_X12_priceOf rfl rfl rfl (by decide +kernel) ⟨Nat.le_of_ble_eq_true rfl, Nat.le_of_ble_eq_true rfl⟩) mt_T147 rfl rfl hl.1 rfl (Nat.le_of_ble_eq_true rfl) dX12_harmOf_76 ⟨Nat.zero_le _, Nat.zero_le _⟩) hS (fun H locs hH hS => ?_)
            refine lv_iconst (v := 2) hx hb dX12_harmOf_79 (by decide) ?_
            refine lv_idiv hx hb dX12_harmOf_80 (by decide) ?_
            have i1 := mt_so1 hf
            subst i1
            exact mt_iret hx hb hr hI hH hS hlocks dX12_harmOf_81
          · have hf := mt_ifF c11 hf
            by_cases c14 : x3 = (4 : Int32)
            · have hf := mt_ifT c14 hf
              refine lv_tableIn (off := 58) (tgt := 86) hx hb dX12_harmOf_28 (by rw [c14]; decide) (by rw [c14]; decide) (by rw [c14]; rfl) (by decide) ?_
              refine lv_iconst (v := 2) hx hb dX12_harmOf_86 (by decide) ?_
              refine lv_aload_n hx hb dX12_harmOf_87 rfl (lv_at hl 0 rfl) ?_
              refine lv_iload_n hx hb dX12_harmOf_88 rfl (lv_at hl 1 rfl) ?_
              refine mt_b1I hf (fun r16 hg15 hf => ?_)
              refine mt_goi (mt_runV (i := 147) (As := [.int a1]) (rest := [.int (2 : Int32)]) ⟨hx, hb, hml, hown, hts⟩ hI hH (c_X12_priceOf l E a1 M u _ hg15) (cwV 1 hts gX12_harmOf_X12_priceOf rfl rfl rfl (by decide +kernel) ⟨Nat.le_of_ble_eq_true rfl, Nat.le_of_ble_eq_true rfl⟩) mt_T147 rfl rfl hl.1 rfl (Nat.le_of_ble_eq_true rfl) dX12_harmOf_89 ⟨Nat.zero_le _, Nat.zero_le _⟩) hS (fun H locs hH hS => ?_)
              refine lv_imul hx hb dX12_harmOf_92 ?_
              have i1 := mt_so1 hf
              subst i1
              exact mt_iret hx hb hr hI hH hS hlocks dX12_harmOf_93
            · have hf := mt_ifF c14 hf
              by_cases c17 : x3 = (5 : Int32)
              · have hf := mt_ifT c17 hf
                refine lv_tableIn (off := 54) (tgt := 82) hx hb dX12_harmOf_28 (by rw [c17]; decide) (by rw [c17]; decide) (by rw [c17]; rfl) (by decide) ?_
                refine lv_iconst (v := 1) hx hb dX12_harmOf_82 (by decide) ?_
                have i1 := mt_so1 hf
                subst i1
                exact mt_iret hx hb hr hI hH hS hlocks dX12_harmOf_83
              · have hf := mt_ifF c17 hf
                refine lv_tableOut (tgt := 86) hx hb dX12_harmOf_28 (mt_tabOut (0) (5) (by decide) (by decide) (fun n hn => ?_)) (by decide) ?_
                · rcases (show n = 0 ∨ n = 1 ∨ n = 2 ∨ n = 3 ∨ n = 4 ∨ n = 5 from by omega) with rfl | rfl | rfl | rfl | rfl | rfl
                  · exact fun e9 => c4 (e9.trans (by decide))
                  · exact fun e9 => c7 (e9.trans (by decide))
                  · exact fun e9 => c10 (e9.trans (by decide))
                  · exact fun e9 => c11 (e9.trans (by decide))
                  · exact fun e9 => c14 (e9.trans (by decide))
                  · exact fun e9 => c17 (e9.trans (by decide))
                · refine lv_iconst (v := 2) hx hb dX12_harmOf_86 (by decide) ?_
                  refine lv_aload_n hx hb dX12_harmOf_87 rfl (lv_at hl 0 rfl) ?_
                  refine lv_iload_n hx hb dX12_harmOf_88 rfl (lv_at hl 1 rfl) ?_
                  refine mt_b1I hf (fun r19 hg18 hf => ?_)
                  refine mt_goi (mt_runV (i := 147) (As := [.int a1]) (rest := [.int (2 : Int32)]) ⟨hx, hb, hml, hown, hts⟩ hI hH (c_X12_priceOf l E a1 M u _ hg18) (cwV 1 hts gX12_harmOf_X12_priceOf rfl rfl rfl (by decide +kernel) ⟨Nat.le_of_ble_eq_true rfl, Nat.le_of_ble_eq_true rfl⟩) mt_T147 rfl rfl hl.1 rfl (Nat.le_of_ble_eq_true rfl) dX12_harmOf_89 ⟨Nat.zero_le _, Nat.zero_le _⟩) hS (fun H locs hH hS => ?_)
                  refine lv_imul hx hb dX12_harmOf_92 ?_
                  have i1 := mt_so1 hf
                  subst i1
                  exact mt_iret hx hb hr hI hH hS hlocks dX12_harmOf_93
  · have hf := mt_ifF c1 hf
    refine lv_iload_n hx hb dX12_harmOf_5 rfl (lv_at hl 2 rfl) ?_
    refine lv_if_ne (tgt := 20) hx hb dX12_harmOf_6 (by decide) (fun c20 => ?_) (fun c20 => ?_)
    · have hf := mt_ifF c20 hf
      refine lv_iconst (v := 0) hx hb dX12_harmOf_20 (by decide) ?_
      have i1 := mt_so1 hf
      subst i1
      exact mt_iret hx hb hr hI hH hS hlocks dX12_harmOf_21
    · have hf := mt_ifT c20 hf
      refine lv_iconst (v := 3) hx hb dX12_harmOf_9 (by decide) ?_
      refine lv_aload_n hx hb dX12_harmOf_10 rfl (lv_at hl 0 rfl) ?_
      refine mt_getr (C := RX12) (T := TX12) (N := 29) hx hb hts hinX12 hown hI hH mt_T147 rfl 3 (by decide) kw1 rfl rfl dX12_harmOf_11 ?_
      refine lv_iload_n hx hb dX12_harmOf_14 rfl (lv_at hl 1 rfl) ?_
      refine mt_ciI hf (fun q21 hf => ?_)
      refine mt_iald hx hb hI hH mt_T151 q21 dX12_harmOf_15 ?_
      refine lv_imul hx hb dX12_harmOf_16 ?_
      refine lv_goto (tgt := 21) hx hb dX12_harmOf_17 (by decide) ?_
      have i1 := mt_so1 hf
      subst i1
      exact mt_iret hx hb hr hI hH hS hlocks dX12_harmOf_21
set_option maxHeartbeats 4000000 in
set_option maxRecDepth 100000 in
theorem c_X12_thingOf (l : Launch) (E : mt_E) (a1 : Int32) (a2 : Int32) (M : mt_M) (u : mt_U) (r : Int32) (M' : mt_M) (hf : f_X12_thingOf a1 a2 M = some (r, M')) : Met l yX12_thingOf wsX12_thingOf ({ frames := 2, cells := 0, slots := 0, locals := 44 } : Room) (mt_P E [.ref (E.2.1 147), .int a1, .int a2] M u) (mt_Qi E r M' u) 0 0 (mt_A E) := by
  refine Met.ofW (cc := cX12_thingOf) (maxL := 3) (ret := (some .int)) (by decide) rfl ?_
  intro p e s mid args below meth c0 s₁ B hml hv
  obtain ⟨rfl, hI, hH⟩ := hv
  have hx := B.exec
  have hb := B.bytes
  have hr := B.returns
  have hts := atoms_spec (ws := wsX12_thingOf) B.pre
  have hown : s.vm.findClass RX12 = some mid.cls := findClass_of_methodNamed B.named
  have hlocks := B.notSynchronized
  have hS : va_S (mt_A E) s.heap s.heap [] := va_S.rf
  have hl := lv_entry ([.ref (E.2.1 147), .int a1, .int a2]) (n := 3) (Nat.le_of_ble_eq_true rfl)
  rw [lg_entry_eq]
  generalize (lg_sl ([.ref (E.2.1 147), .int a1, .int a2]) ++ List.replicate (3 - (lg_sl ([.ref (E.2.1 147), .int a1, .int a2])).length) Slot.unset).toArray = ls at hl ⊢
  have hl : lv_has ls 3 [(0, .ref (E.2.1 147)), (1, .int a1), (2, .int a2)] := hl
  unfold f_X12_thingOf at hf
  have kw0 := hts (.fieldLink RX12 13 "MilkTwiceModel" "kind" "[I") (List.mem_of_getElem? (i := 1) rfl)
  have kw1 := hts (.fieldLink RX12 16 "MilkTwiceModel" "figure" "[I") (List.mem_of_getElem? (i := 2) rfl)
  have kw2 := hts (.fieldLink RX12 19 "MilkTwiceModel" "use" "[I") (List.mem_of_getElem? (i := 3) rfl)
  have kw3 := hts (.fieldLink RX12 22 "MilkTwiceModel" "stocked" "[I") (List.mem_of_getElem? (i := 4) rfl)
  have hinX12 : ∀ w ∈ u_ws RX12 TX12 29, w ∈ wsX12_thingOf := fun w h => List.mem_cons_of_mem _ (List.mem_append_right _ h)
  refine lv_aload_n hx hb dX12_thingOf_0 rfl (lv_at hl 0 rfl) ?_
  refine lv_iload_n hx hb dX12_thingOf_1 rfl (lv_at hl 1 rfl) ?_
  refine mt_b1I hf (fun r2 hg1 hf => ?_)
  refine mt_goi (mt_runV (i := 147) (As := [.int a1]) (rest := []) ⟨hx, hb, hml, hown, hts⟩ hI hH (c_X12_isThing l E a1 M u _ hg1) (cwV 1 hts gX12_thingOf_X12_isThing rfl rfl rfl (by decide +kernel) ⟨Nat.le_of_ble_eq_true rfl, Nat.le_of_ble_eq_true rfl⟩) mt_T147 rfl rfl hl.1 rfl (Nat.le_of_ble_eq_true rfl) dX12_thingOf_2 ⟨Nat.zero_le _, Nat.zero_le _⟩) hS (fun H locs hH hS => ?_)
  refine lv_if_ne (tgt := 14) hx hb dX12_thingOf_5 (by decide) (fun c3 => ?_) (fun c3 => ?_)
  · have hf := mt_ifF c3 hf
    refine lv_iload_n hx hb dX12_thingOf_14 rfl (lv_at hl 2 rfl) ?_
    by_cases c4 : a2 = (0 : Int32)
    · have hf := mt_ifT c4 hf
      refine lv_tableIn (off := 49) (tgt := 64) hx hb dX12_thingOf_15 (by rw [c4]; decide) (by rw [c4]; decide) (by rw [c4]; rfl) (by decide) ?_
      refine lv_aload_n hx hb dX12_thingOf_64 rfl (lv_at hl 0 rfl) ?_
      refine mt_getr (C := RX12) (T := TX12) (N := 29) hx hb hts hinX12 hown hI hH mt_T147 rfl 1 (by decide) kw0 rfl rfl dX12_thingOf_65 ?_
      refine lv_iload_n hx hb dX12_thingOf_68 rfl (lv_at hl 1 rfl) ?_
      refine mt_ciI hf (fun q5 hf => ?_)
      refine mt_iald hx hb hI hH mt_T149 q5 dX12_thingOf_69 ?_
      obtain ⟨i1, i2⟩ := mt_so2 hf
      subst i1
      subst i2
      exact mt_iret hx hb hr hI hH hS hlocks dX12_thingOf_70
    · have hf := mt_ifF c4 hf
      by_cases c6 : a2 = (1 : Int32)
      · have hf := mt_ifT c6 hf
        refine lv_tableIn (off := 56) (tgt := 71) hx hb dX12_thingOf_15 (by rw [c6]; decide) (by rw [c6]; decide) (by rw [c6]; rfl) (by decide) ?_
        refine lv_aload_n hx hb dX12_thingOf_71 rfl (lv_at hl 0 rfl) ?_
        refine mt_getr (C := RX12) (T := TX12) (N := 29) hx hb hts hinX12 hown hI hH mt_T147 rfl 2 (by decide) kw1 rfl rfl dX12_thingOf_72 ?_
        refine lv_iload_n hx hb dX12_thingOf_75 rfl (lv_at hl 1 rfl) ?_
        refine mt_ciI hf (fun q7 hf => ?_)
        refine mt_iald hx hb hI hH mt_T150 q7 dX12_thingOf_76 ?_
        obtain ⟨i1, i2⟩ := mt_so2 hf
        subst i1
        subst i2
        exact mt_iret hx hb hr hI hH hS hlocks dX12_thingOf_77
      · have hf := mt_ifF c6 hf
        by_cases c8 : a2 = (2 : Int32)
        · have hf := mt_ifT c8 hf
          refine lv_tableIn (off := 63) (tgt := 78) hx hb dX12_thingOf_15 (by rw [c8]; decide) (by rw [c8]; decide) (by rw [c8]; rfl) (by decide) ?_
          refine lv_aload_n hx hb dX12_thingOf_78 rfl (lv_at hl 0 rfl) ?_
          refine mt_getr (C := RX12) (T := TX12) (N := 29) hx hb hts hinX12 hown hI hH mt_T147 rfl 3 (by decide) kw2 rfl rfl dX12_thingOf_79 ?_
          refine lv_iload_n hx hb dX12_thingOf_82 rfl (lv_at hl 1 rfl) ?_
          refine mt_ciI hf (fun q9 hf => ?_)
          refine mt_iald hx hb hI hH mt_T151 q9 dX12_thingOf_83 ?_
          obtain ⟨i1, i2⟩ := mt_so2 hf
          subst i1
          subst i2
          exact mt_iret hx hb hr hI hH hS hlocks dX12_thingOf_84
        · have hf := mt_ifF c8 hf
          by_cases c10 : a2 = (3 : Int32)
          · have hf := mt_ifT c10 hf
            refine lv_tableIn (off := 70) (tgt := 85) hx hb dX12_thingOf_15 (by rw [c10]; decide) (by rw [c10]; decide) (by rw [c10]; rfl) (by decide) ?_
            refine lv_aload_n hx hb dX12_thingOf_85 rfl (lv_at hl 0 rfl) ?_
            refine mt_getr (C := RX12) (T := TX12) (N := 29) hx hb hts hinX12 hown hI hH mt_T147 rfl 4 (by decide) kw3 rfl rfl dX12_thingOf_86 ?_
            refine lv_iload_n hx hb dX12_thingOf_89 rfl (lv_at hl 1 rfl) ?_
            refine mt_ciI hf (fun q11 hf => ?_)
            refine mt_iald hx hb hI hH mt_T152 q11 dX12_thingOf_90 ?_
            obtain ⟨i1, i2⟩ := mt_so2 hf
            subst i1
            subst i2
            exact mt_iret hx hb hr hI hH hS hlocks dX12_thingOf_91
          · have hf := mt_ifF c10 hf
            by_cases c12 : a2 = (4 : Int32)
            · have hf := mt_ifT c12 hf
              refine lv_tableIn (off := 77) (tgt := 92) hx hb dX12_thingOf_15 (by rw [c12]; decide) (by rw [c12]; decide) (by rw [c12]; rfl) (by decide) ?_
              refine lv_aload_n hx hb dX12_thingOf_92 rfl (lv_at hl 0 rfl) ?_
              refine lv_iload_n hx hb dX12_thingOf_93 rfl (lv_at hl 1 rfl) ?_
              refine mt_b1I hf (fun r14 hg13 hf => ?_)
              refine mt_goi (mt_runV (i := 147) (As := [.int a1]) (rest := []) ⟨hx, hb, hml, hown, hts⟩ hI hH (c_X12_priceOf l E a1 M u _ hg13) (cwV 1 hts gX12_thingOf_X12_priceOf rfl rfl rfl (by decide +kernel) ⟨Nat.le_of_ble_eq_true rfl, Nat.le_of_ble_eq_true rfl⟩) mt_T147 rfl rfl hl.1 rfl (Nat.le_of_ble_eq_true rfl) dX12_thingOf_94 ⟨Nat.zero_le _, Nat.zero_le _⟩) hS (fun H locs hH hS => ?_)
              obtain ⟨i1, i2⟩ := mt_so2 hf
              subst i1
              subst i2
              exact mt_iret hx hb hr hI hH hS hlocks dX12_thingOf_97
            · have hf := mt_ifF c12 hf
              by_cases c15 : a2 = (5 : Int32)
              · have hf := mt_ifT c15 hf
                refine lv_tableIn (off := 83) (tgt := 98) hx hb dX12_thingOf_15 (by rw [c15]; decide) (by rw [c15]; decide) (by rw [c15]; rfl) (by decide) ?_
                refine lv_aload_n hx hb dX12_thingOf_98 rfl (lv_at hl 0 rfl) ?_
                refine lv_iload_n hx hb dX12_thingOf_99 rfl (lv_at hl 1 rfl) ?_
                refine mt_b1I hf (fun r17 hg16 hf => ?_)
                refine mt_goi (mt_runV (i := 147) (As := [.int a1]) (rest := []) ⟨hx, hb, hml, hown, hts⟩ hI hH (c_X12_packOf l E a1 M u _ hg16) (cwV 1 hts gX12_thingOf_X12_packOf rfl rfl rfl (by decide +kernel) ⟨Nat.le_of_ble_eq_true rfl, Nat.le_of_ble_eq_true rfl⟩) mt_T147 rfl rfl hl.1 rfl (Nat.le_of_ble_eq_true rfl) dX12_thingOf_100 ⟨Nat.zero_le _, Nat.zero_le _⟩) hS (fun H locs hH hS => ?_)
                obtain ⟨i1, i2⟩ := mt_so2 hf
                subst i1
                subst i2
                exact mt_iret hx hb hr hI hH hS hlocks dX12_thingOf_103
              · have hf := mt_ifF c15 hf
                by_cases c18 : a2 = (6 : Int32)
                · have hf := mt_ifT c18 hf
                  refine lv_tableIn (off := 89) (tgt := 104) hx hb dX12_thingOf_15 (by rw [c18]; decide) (by rw [c18]; decide) (by rw [c18]; rfl) (by decide) ?_
                  refine lv_aload_n hx hb dX12_thingOf_104 rfl (lv_at hl 0 rfl) ?_
                  refine lv_iload_n hx hb dX12_thingOf_105 rfl (lv_at hl 1 rfl) ?_
                  refine mt_b1I hf (fun r20 hg19 hf => ?_)
                  refine mt_goi (mt_runV (i := 147) (As := [.int a1]) (rest := []) ⟨hx, hb, hml, hown, hts⟩ hI hH (c_X12_lostOf l E a1 M u _ hg19) (cwV 1 hts gX12_thingOf_X12_lostOf rfl rfl rfl (by decide +kernel) ⟨Nat.le_of_ble_eq_true rfl, Nat.le_of_ble_eq_true rfl⟩) mt_T147 rfl rfl hl.1 rfl (Nat.le_of_ble_eq_true rfl) dX12_thingOf_106 ⟨Nat.zero_le _, Nat.zero_le _⟩) hS (fun H locs hH hS => ?_)
                  obtain ⟨i1, i2⟩ := mt_so2 hf
                  subst i1
                  subst i2
                  exact mt_iret hx hb hr hI hH hS hlocks dX12_thingOf_109
                · have hf := mt_ifF c18 hf
                  by_cases c21 : a2 = (7 : Int32)
                  · have hf := mt_ifT c21 hf
                    refine lv_tableIn (off := 95) (tgt := 110) hx hb dX12_thingOf_15 (by rw [c21]; decide) (by rw [c21]; decide) (by rw [c21]; rfl) (by decide) ?_
                    refine lv_aload_n hx hb dX12_thingOf_110 rfl (lv_at hl 0 rfl) ?_
                    refine lv_iload_n hx hb dX12_thingOf_111 rfl (lv_at hl 1 rfl) ?_
                    refine lv_iconst (v := 0) hx hb dX12_thingOf_112 (by decide) ?_
                    refine mt_b1I hf (fun r23 hg22 hf => ?_)
                    refine mt_goi (mt_runV (i := 147) (As := [.int a1, .int (0 : Int32)]) (rest := []) ⟨hx, hb, hml, hown, hts⟩ hI hH (c_X12_harmOf l E a1 (0 : Int32) M u _ hg22) (cwV 2 hts gX12_thingOf_X12_harmOf rfl rfl rfl (by decide +kernel) ⟨Nat.le_of_ble_eq_true rfl, Nat.le_of_ble_eq_true rfl⟩) mt_T147 rfl rfl hl.1 rfl (Nat.le_of_ble_eq_true rfl) dX12_thingOf_113 ⟨Nat.zero_le _, Nat.zero_le _⟩) hS (fun H locs hH hS => ?_)
                    obtain ⟨i1, i2⟩ := mt_so2 hf
                    subst i1
                    subst i2
                    exact mt_iret hx hb hr hI hH hS hlocks dX12_thingOf_116
                  · have hf := mt_ifF c21 hf
                    by_cases c24 : a2 = (8 : Int32)
                    · have hf := mt_ifT c24 hf
                      refine lv_tableIn (off := 102) (tgt := 117) hx hb dX12_thingOf_15 (by rw [c24]; decide) (by rw [c24]; decide) (by rw [c24]; rfl) (by decide) ?_
                      refine lv_aload_n hx hb dX12_thingOf_117 rfl (lv_at hl 0 rfl) ?_
                      refine lv_iload_n hx hb dX12_thingOf_118 rfl (lv_at hl 1 rfl) ?_
                      refine lv_iconst (v := 2) hx hb dX12_thingOf_119 (by decide) ?_
                      refine mt_b1I hf (fun r26 hg25 hf => ?_)
                      refine mt_goi (mt_runV (i := 147) (As := [.int a1, .int (2 : Int32)]) (rest := []) ⟨hx, hb, hml, hown, hts⟩ hI hH (c_X12_harmOf l E a1 (2 : Int32) M u _ hg25) (cwV 2 hts gX12_thingOf_X12_harmOf rfl rfl rfl (by decide +kernel) ⟨Nat.le_of_ble_eq_true rfl, Nat.le_of_ble_eq_true rfl⟩) mt_T147 rfl rfl hl.1 rfl (Nat.le_of_ble_eq_true rfl) dX12_thingOf_120 ⟨Nat.zero_le _, Nat.zero_le _⟩) hS (fun H locs hH hS => ?_)
                      obtain ⟨i1, i2⟩ := mt_so2 hf
                      subst i1
                      subst i2
                      exact mt_iret hx hb hr hI hH hS hlocks dX12_thingOf_123
                    · have hf := mt_ifF c24 hf
                      refine lv_tableOut (tgt := 124) hx hb dX12_thingOf_15 (mt_tabOut (0) (8) (by decide) (by decide) (fun n hn => ?_)) (by decide) ?_
                      · rcases (show n = 0 ∨ n = 1 ∨ n = 2 ∨ n = 3 ∨ n = 4 ∨ n = 5 ∨ n = 6 ∨ n = 7 ∨ n = 8 from by omega) with rfl | rfl | rfl | rfl | rfl | rfl | rfl | rfl | rfl
                        · exact fun e9 => c4 (e9.trans (by decide))
                        · exact fun e9 => c6 (e9.trans (by decide))
                        · exact fun e9 => c8 (e9.trans (by decide))
                        · exact fun e9 => c10 (e9.trans (by decide))
                        · exact fun e9 => c12 (e9.trans (by decide))
                        · exact fun e9 => c15 (e9.trans (by decide))
                        · exact fun e9 => c18 (e9.trans (by decide))
                        · exact fun e9 => c21 (e9.trans (by decide))
                        · exact fun e9 => c24 (e9.trans (by decide))
                      · refine lv_aload_n hx hb dX12_thingOf_124 rfl (lv_at hl 0 rfl) ?_
                        refine lv_bipush (v := (-2)) hx hb dX12_thingOf_125 (by decide) ?_
                        refine mt_b2I hf (fun r28 M29 hg27 hf => ?_)
                        refine mt_goi (mt_runV (i := 147) (As := [.int (-2 : Int32)]) (rest := []) ⟨hx, hb, hml, hown, hts⟩ hI hH (c_X12_no l E (-2 : Int32) M u _ _ hg27) (cwV 1 hts gX12_thingOf_X12_no rfl rfl rfl (by decide +kernel) ⟨Nat.le_of_ble_eq_true rfl, Nat.le_of_ble_eq_true rfl⟩) mt_T147 rfl rfl hl.1 rfl (Nat.le_of_ble_eq_true rfl) dX12_thingOf_127 ⟨Nat.zero_le _, Nat.zero_le _⟩) hS (fun H locs hH hS => ?_)
                        obtain ⟨i1, i2⟩ := mt_so2 hf
                        subst i1
                        subst i2
                        exact mt_iret hx hb hr hI hH hS hlocks dX12_thingOf_130
  · have hf := mt_ifT c3 hf
    refine lv_aload_n hx hb dX12_thingOf_8 rfl (lv_at hl 0 rfl) ?_
    refine lv_iconst (v := (-1)) hx hb dX12_thingOf_9 (by decide) ?_
    refine mt_b2I hf (fun r31 M32 hg30 hf => ?_)
    refine mt_goi (mt_runV (i := 147) (As := [.int (-1 : Int32)]) (rest := []) ⟨hx, hb, hml, hown, hts⟩ hI hH (c_X12_no l E (-1 : Int32) M u _ _ hg30) (cwV 1 hts gX12_thingOf_X12_no rfl rfl rfl (by decide +kernel) ⟨Nat.le_of_ble_eq_true rfl, Nat.le_of_ble_eq_true rfl⟩) mt_T147 rfl rfl hl.1 rfl (Nat.le_of_ble_eq_true rfl) dX12_thingOf_10 ⟨Nat.zero_le _, Nat.zero_le _⟩) hS (fun H locs hH hS => ?_)
    obtain ⟨i1, i2⟩ := mt_so2 hf
    subst i1
    subst i2
    exact mt_iret hx hb hr hI hH hS hlocks dX12_thingOf_13
set_option maxHeartbeats 4000000 in
set_option maxRecDepth 100000 in
theorem c_X12_thing (l : Launch) (E : mt_E) (a1 : Int32) (a2 : Int32) (a3 : Int32) (M : mt_M) (u : mt_U) (r : Int32) (M' : mt_M) (hf : f_X12_thing a1 a2 a3 M = some (r, M')) : Met l yX12_thing wsX12_thing ({ frames := 1, cells := 0, slots := 0, locals := 24 } : Room) (mt_P E [.ref (E.2.1 147), .int a1, .int a2, .int a3] M u) (mt_Qi E r M' u) 0 0 (mt_A E) := by
  refine Met.ofW (cc := cX12_thing) (maxL := 5) (ret := (some .int)) (by decide) rfl ?_
  intro p e s mid args below meth c0 s₁ B hml hv
  obtain ⟨rfl, hI, hH⟩ := hv
  have hx := B.exec
  have hb := B.bytes
  have hr := B.returns
  have hts := atoms_spec (ws := wsX12_thing) B.pre
  have hown : s.vm.findClass RX12 = some mid.cls := findClass_of_methodNamed B.named
  have hlocks := B.notSynchronized
  have hS : va_S (mt_A E) s.heap s.heap [] := va_S.rf
  have hl := lv_entry ([.ref (E.2.1 147), .int a1, .int a2, .int a3]) (n := 5) (Nat.le_of_ble_eq_true rfl)
  rw [lg_entry_eq]
  generalize (lg_sl ([.ref (E.2.1 147), .int a1, .int a2, .int a3]) ++ List.replicate (5 - (lg_sl ([.ref (E.2.1 147), .int a1, .int a2, .int a3])).length) Slot.unset).toArray = ls at hl ⊢
  have hl : lv_has ls 5 [(0, .ref (E.2.1 147)), (1, .int a1), (2, .int a2), (3, .int a3)] := hl
  unfold f_X12_thing at hf
  have kw0 := hts (.fieldLink RX12 153 "MilkTwiceModel" "backs" "I") (List.mem_of_getElem? (i := 2) rfl)
  have kw1 := hts (.fieldLink RX12 59 "MilkTwiceModel" "things" "I") (List.mem_of_getElem? (i := 1) rfl)
  have hinX12 : ∀ w ∈ u_ws RX12 TX12 29, w ∈ wsX12_thing := fun w h => List.mem_cons_of_mem _ (List.mem_append_right _ h)
  refine lv_iload_n hx hb dX12_thing_0 rfl (lv_at hl 1 rfl) ?_
  refine lv_iconst (v := 0) hx hb dX12_thing_1 (by decide) ?_
  refine lv_iconst (v := 5) hx hb dX12_thing_2 (by decide) ?_
  refine mt_b1I hf (fun r2 hg1 hf => ?_)
  refine mt_goi (mt_runS (As := [.int a1, .int (0 : Int32), .int (5 : Int32)]) (rest := []) ⟨hx, hb, hml, hown, hts⟩ hI hH (c_X12_isIn l E a1 (0 : Int32) (5 : Int32) M u _ hg1) (va_cwS 3 hts gX12_thing_X12_isIn rfl rfl rfl (by decide +kernel) ⟨Nat.le_of_ble_eq_true rfl, Nat.le_of_ble_eq_true rfl⟩) rfl hl.1 rfl (Nat.le_of_ble_eq_true rfl) dX12_thing_3 ⟨Nat.zero_le _, Nat.zero_le _⟩) hS (fun H locs hH hS => ?_)
  refine mt_jn1 hf (fun (v3 : Int32) => ∀ (H : Heap) (locs : List Loc) (ls : Array Slot), mt_H E M u H → va_S (mt_A E) s.heap H locs → lv_has ls 5 [(0, .ref (E.2.1 147)), (1, .int a1), (2, .int a2), (3, .int a3)] → W p l e (headSpec wsX12_thing ({ frames := 1, cells := 0, slots := 0, locals := 24 } : Room)).room s mid (([.ref (E.2.1 147), .int a1, .int a2, .int a3] : List Value).toArray) below meth c0 H locs 0 0 (MQ below (mt_Qi E r M' u) (([.ref (E.2.1 147), .int a1, .int a2, .int a3] : List Value).toArray) s 0 0 (mt_A E)) (F0 mid 54 ls [.int v3])) ?_ ?_
  · intro v3 hf H locs ls hH hS hl
    refine lv_istore (lv' := [(4, .int v3), (0, .ref (E.2.1 147)), (1, .int a1), (2, .int a2), (3, .int a3)]) hx hb dX12_thing_54 hl (by decide) rfl (fun ls hl => ?_)
    refine lv_iload hx hb dX12_thing_56 (lv_at hl 0 rfl) ?_
    refine lv_if_eq (tgt := 68) hx hb dX12_thing_58 (by decide) (fun c6 => ?_) (fun c6 => ?_)
    · have hf := mt_ifT c6 hf
      refine lv_aload_n hx hb dX12_thing_68 rfl (lv_at hl 1 rfl) ?_
      refine lv_iconst (v := 0) hx hb dX12_thing_69 (by decide) ?_
      refine mt_puti (ty := .int) (C := RX12) (T := TX12) (N := 29) hx hb hts hinX12 tyX12 tyX12_ok nmX12 hown hI hH hS mt_T147 rfl 23 (by decide) kw0 rfl rfl (by decide +kernel) rfl rfl rfl dX12_thing_70 (fun H locs hH hS => ?_)
      refine mt_ltI hf (fun M7 eM7 hf => ?_)
      rw [← eM7] at hH
      refine lv_aload_n hx hb dX12_thing_73 rfl (lv_at hl 1 rfl) ?_
      refine lv_iload_n hx hb dX12_thing_74 rfl (lv_at hl 2 rfl) ?_
      refine lv_iload_n hx hb dX12_thing_75 rfl (lv_at hl 3 rfl) ?_
      refine lv_iload_n hx hb dX12_thing_76 rfl (lv_at hl 4 rfl) ?_
      refine mt_b1I hf (fun M9 hg8 hf => ?_)
      refine mt_gov (mt_runV (i := 147) (As := [.int a1, .int a2, .int a3]) (rest := []) ⟨hx, hb, hml, hown, hts⟩ hI hH (c_X12_adds l E a1 a2 a3 M7 u _ hg8) (cwV 3 hts gX12_thing_X12_adds rfl rfl rfl (by decide +kernel) ⟨Nat.le_of_ble_eq_true rfl, Nat.le_of_ble_eq_true rfl⟩) mt_T147 rfl rfl hl.1 rfl (Nat.le_of_ble_eq_true rfl) dX12_thing_77 ⟨Nat.zero_le _, Nat.zero_le _⟩) hS (fun H locs hH hS => ?_)
      refine lv_aload_n hx hb dX12_thing_80 rfl (lv_at hl 1 rfl) ?_
      refine mt_geti (C := RX12) (T := TX12) (N := 29) hx hb hts hinX12 hown hI hH mt_T147 rfl 8 (by decide) kw1 rfl rfl dX12_thing_81 ?_
      refine lv_iconst (v := 1) hx hb dX12_thing_84 (by decide) ?_
      refine lv_isub hx hb dX12_thing_85 ?_
      obtain ⟨i1, i2⟩ := mt_so2 hf
      subst i1
      subst i2
      exact mt_iret hx hb hr hI hH hS hlocks dX12_thing_86
    · have hf := mt_ifF c6 hf
      refine lv_aload_n hx hb dX12_thing_61 rfl (lv_at hl 1 rfl) ?_
      refine lv_iload hx hb dX12_thing_62 (lv_at hl 0 rfl) ?_
      refine mt_b2I hf (fun r11 M12 hg10 hf => ?_)
      refine mt_goi (mt_runV (i := 147) (As := [.int v3]) (rest := []) ⟨hx, hb, hml, hown, hts⟩ hI hH (c_X12_no l E v3 M u _ _ hg10) (cwV 1 hts gX12_thing_X12_no rfl rfl rfl (by decide +kernel) ⟨Nat.le_of_ble_eq_true rfl, Nat.le_of_ble_eq_true rfl⟩) mt_T147 rfl rfl hl.1 rfl (Nat.le_of_ble_eq_true rfl) dX12_thing_64 ⟨Nat.zero_le _, Nat.zero_le _⟩) hS (fun H locs hH hS => ?_)
      obtain ⟨i1, i2⟩ := mt_so2 hf
      subst i1
      subst i2
      exact mt_iret hx hb hr hI hH hS hlocks dX12_thing_67
  · intro j4 hj5 hf
    refine lv_if_ne (tgt := 14) hx hb dX12_thing_6 (by decide) (fun c13 => ?_) (fun c13 => ?_)
    · have hf := mt_ifF c13 hf
      refine lv_iload_n hx hb dX12_thing_14 rfl (lv_at hl 2 rfl) ?_
      refine mt_jn0 hf (∀ (H : Heap) (locs : List Loc) (ls : Array Slot), mt_H E M u H → va_S (mt_A E) s.heap H locs → lv_has ls 5 [(0, .ref (E.2.1 147)), (1, .int a1), (2, .int a2), (3, .int a3)] → W p l e (headSpec wsX12_thing ({ frames := 1, cells := 0, slots := 0, locals := 24 } : Room)).room s mid (([.ref (E.2.1 147), .int a1, .int a2, .int a3] : List Value).toArray) below meth c0 H locs 0 0 (MQ below (mt_Qi E r M' u) (([.ref (E.2.1 147), .int a1, .int a2, .int a3] : List Value).toArray) s 0 0 (mt_A E)) (F0 mid 22 ls [])) ?_ ?_
      · intro hf H locs ls hH hS hl
        refine lv_bipush (v := (-4)) hx hb dX12_thing_22 (by decide) ?_
        refine lv_goto (tgt := 54) hx hb dX12_thing_24 (by decide) ?_
        exact hj5 (-4 : Int32) hf _ _ _ hH hS (lv_sub hl [0, 1, 2, 3] rfl)
      · intro j14 hj15 hf
        refine lv_if_lt (tgt := 22) hx hb dX12_thing_15 (by decide) (fun c16 => ?_) (fun c16 => ?_)
        · have hf := mt_ifT c16 hf
          exact hj15 hf _ _ _ hH hS (lv_sub hl [0, 1, 2, 3] rfl)
        · have hf := mt_ifF c16 hf
          refine lv_iload_n hx hb dX12_thing_18 rfl (lv_at hl 3 rfl) ?_
          refine lv_if_ge (tgt := 27) hx hb dX12_thing_19 (by decide) (fun c17 => ?_) (fun c17 => ?_)
          · have hf := mt_ifT c17 hf
            refine lv_iload_n hx hb dX12_thing_27 rfl (lv_at hl 2 rfl) ?_
            refine lv_bipush (v := 9) hx hb dX12_thing_28 (by decide) ?_
            refine mt_jn0 hf (∀ (H : Heap) (locs : List Loc) (ls : Array Slot), mt_H E M u H → va_S (mt_A E) s.heap H locs → lv_has ls 5 [(0, .ref (E.2.1 147)), (1, .int a1), (2, .int a2), (3, .int a3)] → W p l e (headSpec wsX12_thing ({ frames := 1, cells := 0, slots := 0, locals := 24 } : Room)).room s mid (([.ref (E.2.1 147), .int a1, .int a2, .int a3] : List Value).toArray) below meth c0 H locs 0 0 (MQ below (mt_Qi E r M' u) (([.ref (E.2.1 147), .int a1, .int a2, .int a3] : List Value).toArray) s 0 0 (mt_A E)) (F0 mid 48 ls [])) ?_ ?_
            · intro hf H locs ls hH hS hl
              refine lv_bipush (v := (-6)) hx hb dX12_thing_48 (by decide) ?_
              refine lv_goto (tgt := 54) hx hb dX12_thing_50 (by decide) ?_
              exact hj5 (-6 : Int32) hf _ _ _ hH hS (lv_sub hl [0, 1, 2, 3] rfl)
            · intro j18 hj19 hf
              refine lv_icmp_gt (tgt := 48) hx hb dX12_thing_30 (by decide) (fun c20 => ?_) (fun c20 => ?_)
              · have hf := mt_ifT c20 hf
                exact hj19 hf _ _ _ hH hS (lv_sub hl [0, 1, 2, 3] rfl)
              · have hf := mt_ifF c20 hf
                refine lv_iload_n hx hb dX12_thing_33 rfl (lv_at hl 3 rfl) ?_
                refine lv_bipush (v := 9) hx hb dX12_thing_34 (by decide) ?_
                refine lv_icmp_gt (tgt := 48) hx hb dX12_thing_36 (by decide) (fun c21 => ?_) (fun c21 => ?_)
                · have hf := mt_ifT c21 hf
                  exact hj19 hf _ _ _ hH hS (lv_sub hl [0, 1, 2, 3] rfl)
                · have hf := mt_ifF c21 hf
                  refine lv_aload_n hx hb dX12_thing_39 rfl (lv_at hl 0 rfl) ?_
                  refine mt_geti (C := RX12) (T := TX12) (N := 29) hx hb hts hinX12 hown hI hH mt_T147 rfl 8 (by decide) kw1 rfl rfl dX12_thing_40 ?_
                  refine lv_bipush (v := 7) hx hb dX12_thing_43 (by decide) ?_
                  refine lv_icmp_ne (tgt := 53) hx hb dX12_thing_45 (by decide) (fun c22 => ?_) (fun c22 => ?_)
                  · have hf := mt_ifF c22 hf
                    refine lv_iconst (v := 0) hx hb dX12_thing_53 (by decide) ?_
                    exact hj5 (0 : Int32) hf _ _ _ hH hS (lv_sub hl [0, 1, 2, 3] rfl)
                  · have hf := mt_ifT c22 hf
                    exact hj19 hf _ _ _ hH hS (lv_sub hl [0, 1, 2, 3] rfl)
          · have hf := mt_ifF c17 hf
            exact hj15 hf _ _ _ hH hS (lv_sub hl [0, 1, 2, 3] rfl)
    · have hf := mt_ifT c13 hf
      refine lv_bipush (v := (-2)) hx hb dX12_thing_9 (by decide) ?_
      refine lv_goto (tgt := 54) hx hb dX12_thing_11 (by decide) ?_
      exact hj5 (-2 : Int32) hf _ _ _ hH hS (lv_sub hl [0, 1, 2, 3] rfl)
set_option maxHeartbeats 4000000 in
set_option maxRecDepth 100000 in
theorem c_X12_stock (l : Launch) (E : mt_E) (a1 : Int32) (a2 : Int32) (M : mt_M) (u : mt_U) (r : Int32) (M' : mt_M) (hf : f_X12_stock a1 a2 M = some (r, M')) : Met l yX12_stock wsX12_stock ({ frames := 3, cells := 0, slots := 0, locals := 65 } : Room) (mt_P E [.ref (E.2.1 147), .int a1, .int a2] M u) (mt_Qi E r M' u) 0 0 (mt_A E) := by
  refine Met.ofW (cc := cX12_stock) (maxL := 5) (ret := (some .int)) (by decide) rfl ?_
  intro p e s mid args below meth c0 s₁ B hml hv
  obtain ⟨rfl, hI, hH⟩ := hv
  have hx := B.exec
  have hb := B.bytes
  have hr := B.returns
  have hts := atoms_spec (ws := wsX12_stock) B.pre
  have hown : s.vm.findClass RX12 = some mid.cls := findClass_of_methodNamed B.named
  have hlocks := B.notSynchronized
  have hS : va_S (mt_A E) s.heap s.heap [] := va_S.rf
  have hl := lv_entry ([.ref (E.2.1 147), .int a1, .int a2]) (n := 5) (Nat.le_of_ble_eq_true rfl)
  rw [lg_entry_eq]
  generalize (lg_sl ([.ref (E.2.1 147), .int a1, .int a2]) ++ List.replicate (5 - (lg_sl ([.ref (E.2.1 147), .int a1, .int a2])).length) Slot.unset).toArray = ls at hl ⊢
  have hl : lv_has ls 5 [(0, .ref (E.2.1 147)), (1, .int a1), (2, .int a2)] := hl
  unfold f_X12_stock at hf
  have kw0 := hts (.fieldLink RX12 22 "MilkTwiceModel" "stocked" "[I") (List.mem_of_getElem? (i := 1) rfl)
  have hinX12 : ∀ w ∈ u_ws RX12 TX12 29, w ∈ wsX12_stock := fun w h => List.mem_cons_of_mem _ (List.mem_append_right _ h)
  refine lv_aload_n hx hb dX12_stock_0 rfl (lv_at hl 0 rfl) ?_
  refine lv_iload_n hx hb dX12_stock_1 rfl (lv_at hl 1 rfl) ?_
  refine mt_b1I hf (fun r2 hg1 hf => ?_)
  refine mt_goi (mt_runV (i := 147) (As := [.int a1]) (rest := []) ⟨hx, hb, hml, hown, hts⟩ hI hH (c_X12_isThing l E a1 M u _ hg1) (cwV 1 hts gX12_stock_X12_isThing rfl rfl rfl (by decide +kernel) ⟨Nat.le_of_ble_eq_true rfl, Nat.le_of_ble_eq_true rfl⟩) mt_T147 rfl rfl hl.1 rfl (Nat.le_of_ble_eq_true rfl) dX12_stock_2 ⟨Nat.zero_le _, Nat.zero_le _⟩) hS (fun H locs hH hS => ?_)
  refine mt_jn1 hf (fun (v3 : Int32) => ∀ (H : Heap) (locs : List Loc) (ls : Array Slot), mt_H E M u H → va_S (mt_A E) s.heap H locs → lv_has ls 5 [(0, .ref (E.2.1 147)), (1, .int a1), (2, .int a2)] → W p l e (headSpec wsX12_stock ({ frames := 3, cells := 0, slots := 0, locals := 65 } : Room)).room s mid (([.ref (E.2.1 147), .int a1, .int a2] : List Value).toArray) below meth c0 H locs 0 0 (MQ below (mt_Qi E r M' u) (([.ref (E.2.1 147), .int a1, .int a2] : List Value).toArray) s 0 0 (mt_A E)) (F0 mid 19 ls [.int v3])) ?_ ?_
  · intro v3 hf H locs ls hH hS hl
    refine lv_istore_n (lv' := [(3, .int v3), (0, .ref (E.2.1 147)), (1, .int a1), (2, .int a2)]) hx hb dX12_stock_19 rfl hl (by decide) rfl (fun ls hl => ?_)
    refine lv_iload_n hx hb dX12_stock_20 rfl (lv_at hl 0 rfl) ?_
    refine lv_if_eq (tgt := 30) hx hb dX12_stock_21 (by decide) (fun c6 => ?_) (fun c6 => ?_)
    · have hf := mt_ifT c6 hf
      refine lv_aload_n hx hb dX12_stock_30 rfl (lv_at hl 1 rfl) ?_
      refine mt_b1I hf (fun M8 hg7 hf => ?_)
      refine mt_gov (mt_runV (i := 147) (As := []) (rest := []) ⟨hx, hb, hml, hown, hts⟩ hI hH (c_X12_keepsBack l E M u _ hg7) (cwV 0 hts gX12_stock_X12_keepsBack rfl rfl rfl (by decide +kernel) ⟨Nat.le_of_ble_eq_true rfl, Nat.le_of_ble_eq_true rfl⟩) mt_T147 rfl rfl hl.1 rfl (Nat.le_of_ble_eq_true rfl) dX12_stock_31 ⟨Nat.zero_le _, Nat.zero_le _⟩) hS (fun H locs hH hS => ?_)
      refine lv_aload_n hx hb dX12_stock_34 rfl (lv_at hl 1 rfl) ?_
      refine mt_getr (C := RX12) (T := TX12) (N := 29) hx hb hts hinX12 hown hI hH mt_T147 rfl 4 (by decide) kw0 rfl rfl dX12_stock_35 ?_
      refine lv_iload_n hx hb dX12_stock_38 rfl (lv_at hl 2 rfl) ?_
      refine mt_ciI hf (fun q9 hf => ?_)
      refine mt_iald hx hb hI hH mt_T152 q9 dX12_stock_39 ?_
      refine mt_lti hf (fun x10 ex10 hf => ?_)
      refine lv_istore (lv' := [(4, .int x10), (3, .int v3), (0, .ref (E.2.1 147)), (1, .int a1), (2, .int a2)]) hx hb dX12_stock_40 hl (by decide) rfl (fun ls hl => ?_)
      refine lv_aload_n hx hb dX12_stock_42 rfl (lv_at hl 2 rfl) ?_
      refine mt_getr (C := RX12) (T := TX12) (N := 29) hx hb hts hinX12 hown hI hH mt_T147 rfl 4 (by decide) kw0 rfl rfl dX12_stock_43 ?_
      refine lv_iload_n hx hb dX12_stock_46 rfl (lv_at hl 3 rfl) ?_
      refine lv_iload_n hx hb dX12_stock_47 rfl (lv_at hl 4 rfl) ?_
      refine mt_ciI hf (fun q12 hf => ?_)
      refine mt_iast hx hb hI hH hS mt_T152 q12 dX12_stock_48 (fun H locs hH hS => ?_)
      refine mt_ltI hf (fun M11 eM11 hf => ?_)
      rw [← eM11] at hH
      refine lv_iload hx hb dX12_stock_49 (lv_at hl 0 rfl) ?_
      obtain ⟨i1, i2⟩ := mt_so2 hf
      subst i1
      subst i2
      exact mt_iret hx hb hr hI hH hS hlocks dX12_stock_51
    · have hf := mt_ifF c6 hf
      refine lv_aload_n hx hb dX12_stock_24 rfl (lv_at hl 1 rfl) ?_
      refine lv_iload_n hx hb dX12_stock_25 rfl (lv_at hl 0 rfl) ?_
      refine mt_b2I hf (fun r14 M15 hg13 hf => ?_)
      refine mt_goi (mt_runV (i := 147) (As := [.int v3]) (rest := []) ⟨hx, hb, hml, hown, hts⟩ hI hH (c_X12_no l E v3 M u _ _ hg13) (cwV 1 hts gX12_stock_X12_no rfl rfl rfl (by decide +kernel) ⟨Nat.le_of_ble_eq_true rfl, Nat.le_of_ble_eq_true rfl⟩) mt_T147 rfl rfl hl.1 rfl (Nat.le_of_ble_eq_true rfl) dX12_stock_26 ⟨Nat.zero_le _, Nat.zero_le _⟩) hS (fun H locs hH hS => ?_)
      obtain ⟨i1, i2⟩ := mt_so2 hf
      subst i1
      subst i2
      exact mt_iret hx hb hr hI hH hS hlocks dX12_stock_29
  · intro j4 hj5 hf
    refine lv_if_ne (tgt := 12) hx hb dX12_stock_5 (by decide) (fun c16 => ?_) (fun c16 => ?_)
    · have hf := mt_ifF c16 hf
      refine lv_iload_n hx hb dX12_stock_12 rfl (lv_at hl 2 rfl) ?_
      refine lv_iconst (v := 0) hx hb dX12_stock_13 (by decide) ?_
      refine lv_bipush (v := 99) hx hb dX12_stock_14 (by decide) ?_
      refine mt_b1I hf (fun r18 hg17 hf => ?_)
      refine mt_goi (mt_runS (As := [.int a2, .int (0 : Int32), .int (99 : Int32)]) (rest := []) ⟨hx, hb, hml, hown, hts⟩ hI hH (c_X12_bound l E a2 (0 : Int32) (99 : Int32) M u _ hg17) (va_cwS 3 hts gX12_stock_X12_bound rfl rfl rfl (by decide +kernel) ⟨Nat.le_of_ble_eq_true rfl, Nat.le_of_ble_eq_true rfl⟩) rfl hl.1 rfl (Nat.le_of_ble_eq_true rfl) dX12_stock_16 ⟨Nat.zero_le _, Nat.zero_le _⟩) hS (fun H locs hH hS => ?_)
      exact hj5 r18 hf _ _ _ hH hS (lv_sub hl [0, 1, 2] rfl)
    · have hf := mt_ifT c16 hf
      refine lv_iconst (v := (-1)) hx hb dX12_stock_8 (by decide) ?_
      refine lv_goto (tgt := 19) hx hb dX12_stock_9 (by decide) ?_
      exact hj5 (-1 : Int32) hf _ _ _ hH hS (lv_sub hl [0, 1, 2] rfl)
set_option maxHeartbeats 4000000 in
set_option maxRecDepth 100000 in
theorem c_X12_lineOf (l : Launch) (E : mt_E) (a1 : Int32) (a2 : Int32) (a3 : Int32) (M : mt_M) (u : mt_U) (r : Int32) (M' : mt_M) (hf : f_X12_lineOf a1 a2 a3 M = some (r, M')) : Met l yX12_lineOf wsX12_lineOf ({ frames := 2, cells := 0, slots := 0, locals := 43 } : Room) (mt_P E [.ref (E.2.1 147), .int a1, .int a2, .int a3] M u) (mt_Qi E r M' u) 0 0 (mt_A E) := by
  refine Met.ofW (cc := cX12_lineOf) (maxL := 4) (ret := (some .int)) (by decide) rfl ?_
  intro p e s mid args below meth c0 s₁ B hml hv
  obtain ⟨rfl, hI, hH⟩ := hv
  have hx := B.exec
  have hb := B.bytes
  have hr := B.returns
  have hts := atoms_spec (ws := wsX12_lineOf) B.pre
  have hown : s.vm.findClass RX12 = some mid.cls := findClass_of_methodNamed B.named
  have hlocks := B.notSynchronized
  have hS : va_S (mt_A E) s.heap s.heap [] := va_S.rf
  have hl := lv_entry ([.ref (E.2.1 147), .int a1, .int a2, .int a3]) (n := 4) (Nat.le_of_ble_eq_true rfl)
  rw [lg_entry_eq]
  generalize (lg_sl ([.ref (E.2.1 147), .int a1, .int a2, .int a3]) ++ List.replicate (4 - (lg_sl ([.ref (E.2.1 147), .int a1, .int a2, .int a3])).length) Slot.unset).toArray = ls at hl ⊢
  have hl : lv_has ls 4 [(0, .ref (E.2.1 147)), (1, .int a1), (2, .int a2), (3, .int a3)] := hl
  unfold f_X12_lineOf at hf
  have kw0 := hts (.fieldLink RX12 28 "MilkTwiceModel" "clock" "[I") (List.mem_of_getElem? (i := 2) rfl)
  have kw1 := hts (.fieldLink RX12 25 "MilkTwiceModel" "wanted" "[I") (List.mem_of_getElem? (i := 1) rfl)
  have hinX12 : ∀ w ∈ u_ws RX12 TX12 29, w ∈ wsX12_lineOf := fun w h => List.mem_cons_of_mem _ (List.mem_append_right _ h)
  refine lv_aload_n hx hb dX12_lineOf_0 rfl (lv_at hl 0 rfl) ?_
  refine lv_iload_n hx hb dX12_lineOf_1 rfl (lv_at hl 1 rfl) ?_
  refine lv_iload_n hx hb dX12_lineOf_2 rfl (lv_at hl 2 rfl) ?_
  refine mt_b1I hf (fun r2 hg1 hf => ?_)
  refine mt_goi (mt_runV (i := 147) (As := [.int a1, .int a2]) (rest := []) ⟨hx, hb, hml, hown, hts⟩ hI hH (c_X12_isLine l E a1 a2 M u _ hg1) (cwV 2 hts gX12_lineOf_X12_isLine rfl rfl rfl (by decide +kernel) ⟨Nat.le_of_ble_eq_true rfl, Nat.le_of_ble_eq_true rfl⟩) mt_T147 rfl rfl hl.1 rfl (Nat.le_of_ble_eq_true rfl) dX12_lineOf_3 ⟨Nat.zero_le _, Nat.zero_le _⟩) hS (fun H locs hH hS => ?_)
  refine lv_if_ne (tgt := 15) hx hb dX12_lineOf_6 (by decide) (fun c3 => ?_) (fun c3 => ?_)
  · have hf := mt_ifF c3 hf
    refine lv_iload_n hx hb dX12_lineOf_15 rfl (lv_at hl 3 rfl) ?_
    refine lv_if_ne (tgt := 33) hx hb dX12_lineOf_16 (by decide) (fun c4 => ?_) (fun c4 => ?_)
    · have hf := mt_ifF c4 hf
      refine lv_iload_n hx hb dX12_lineOf_33 rfl (lv_at hl 3 rfl) ?_
      refine lv_iconst (v := 1) hx hb dX12_lineOf_34 (by decide) ?_
      refine lv_icmp_ne (tgt := 52) hx hb dX12_lineOf_35 (by decide) (fun c5 => ?_) (fun c5 => ?_)
      · have hf := mt_ifF c5 hf
        refine lv_aload_n hx hb dX12_lineOf_52 rfl (lv_at hl 0 rfl) ?_
        refine lv_bipush (v := (-2)) hx hb dX12_lineOf_53 (by decide) ?_
        refine mt_b2I hf (fun r7 M8 hg6 hf => ?_)
        refine mt_goi (mt_runV (i := 147) (As := [.int (-2 : Int32)]) (rest := []) ⟨hx, hb, hml, hown, hts⟩ hI hH (c_X12_no l E (-2 : Int32) M u _ _ hg6) (cwV 1 hts gX12_lineOf_X12_no rfl rfl rfl (by decide +kernel) ⟨Nat.le_of_ble_eq_true rfl, Nat.le_of_ble_eq_true rfl⟩) mt_T147 rfl rfl hl.1 rfl (Nat.le_of_ble_eq_true rfl) dX12_lineOf_55 ⟨Nat.zero_le _, Nat.zero_le _⟩) hS (fun H locs hH hS => ?_)
        obtain ⟨i1, i2⟩ := mt_so2 hf
        subst i1
        subst i2
        exact mt_iret hx hb hr hI hH hS hlocks dX12_lineOf_58
      · have hf := mt_ifT c5 hf
        refine lv_aload_n hx hb dX12_lineOf_38 rfl (lv_at hl 0 rfl) ?_
        refine mt_getr (C := RX12) (T := TX12) (N := 29) hx hb hts hinX12 hown hI hH mt_T147 rfl 6 (by decide) kw0 rfl rfl dX12_lineOf_39 ?_
        refine lv_bipush (v := 7) hx hb dX12_lineOf_42 (by decide) ?_
        refine lv_iload_n hx hb dX12_lineOf_44 rfl (lv_at hl 1 rfl) ?_
        refine lv_imul hx hb dX12_lineOf_45 ?_
        refine lv_iload_n hx hb dX12_lineOf_46 rfl (lv_at hl 2 rfl) ?_
        refine lv_iadd hx hb dX12_lineOf_47 ?_
        refine mt_ciI hf (fun q9 hf => ?_)
        refine mt_iald hx hb hI hH mt_T154 q9 dX12_lineOf_48 ?_
        refine lv_goto (tgt := 58) hx hb dX12_lineOf_49 (by decide) ?_
        obtain ⟨i1, i2⟩ := mt_so2 hf
        subst i1
        subst i2
        exact mt_iret hx hb hr hI hH hS hlocks dX12_lineOf_58
    · have hf := mt_ifT c4 hf
      refine lv_aload_n hx hb dX12_lineOf_19 rfl (lv_at hl 0 rfl) ?_
      refine mt_getr (C := RX12) (T := TX12) (N := 29) hx hb hts hinX12 hown hI hH mt_T147 rfl 5 (by decide) kw1 rfl rfl dX12_lineOf_20 ?_
      refine lv_bipush (v := 7) hx hb dX12_lineOf_23 (by decide) ?_
      refine lv_iload_n hx hb dX12_lineOf_25 rfl (lv_at hl 1 rfl) ?_
      refine lv_imul hx hb dX12_lineOf_26 ?_
      refine lv_iload_n hx hb dX12_lineOf_27 rfl (lv_at hl 2 rfl) ?_
      refine lv_iadd hx hb dX12_lineOf_28 ?_
      refine mt_ciI hf (fun q10 hf => ?_)
      refine mt_iald hx hb hI hH mt_T153 q10 dX12_lineOf_29 ?_
      refine lv_goto (tgt := 58) hx hb dX12_lineOf_30 (by decide) ?_
      obtain ⟨i1, i2⟩ := mt_so2 hf
      subst i1
      subst i2
      exact mt_iret hx hb hr hI hH hS hlocks dX12_lineOf_58
  · have hf := mt_ifT c3 hf
    refine lv_aload_n hx hb dX12_lineOf_9 rfl (lv_at hl 0 rfl) ?_
    refine lv_iconst (v := (-1)) hx hb dX12_lineOf_10 (by decide) ?_
    refine mt_b2I hf (fun r12 M13 hg11 hf => ?_)
    refine mt_goi (mt_runV (i := 147) (As := [.int (-1 : Int32)]) (rest := []) ⟨hx, hb, hml, hown, hts⟩ hI hH (c_X12_no l E (-1 : Int32) M u _ _ hg11) (cwV 1 hts gX12_lineOf_X12_no rfl rfl rfl (by decide +kernel) ⟨Nat.le_of_ble_eq_true rfl, Nat.le_of_ble_eq_true rfl⟩) mt_T147 rfl rfl hl.1 rfl (Nat.le_of_ble_eq_true rfl) dX12_lineOf_11 ⟨Nat.zero_le _, Nat.zero_le _⟩) hS (fun H locs hH hS => ?_)
    obtain ⟨i1, i2⟩ := mt_so2 hf
    subst i1
    subst i2
    exact mt_iret hx hb hr hI hH hS hlocks dX12_lineOf_14
set_option maxHeartbeats 4000000 in
set_option maxRecDepth 100000 in
theorem c_X12_notMark (l : Launch) (E : mt_E) (a1 : Int32) (a2 : Int32) (M : mt_M) (u : mt_U) (r : Int32) (hf : f_X12_notMark a1 a2 M = some (r)) : Met l yX12_notMark wsX12_notMark ({ frames := 2, cells := 0, slots := 0, locals := 43 } : Room) (mt_P E [.ref (E.2.1 147), .int a1, .int a2] M u) (mt_Qi E r M u) 0 0 (mt_A E) := by
  refine Met.ofW (cc := cX12_notMark) (maxL := 3) (ret := (some .int)) (by decide) rfl ?_
  intro p e s mid args below meth c0 s₁ B hml hv
  obtain ⟨rfl, hI, hH⟩ := hv
  have hx := B.exec
  have hb := B.bytes
  have hr := B.returns
  have hts := atoms_spec (ws := wsX12_notMark) B.pre
  have hown : s.vm.findClass RX12 = some mid.cls := findClass_of_methodNamed B.named
  have hlocks := B.notSynchronized
  have hS : va_S (mt_A E) s.heap s.heap [] := va_S.rf
  have hl := lv_entry ([.ref (E.2.1 147), .int a1, .int a2]) (n := 3) (Nat.le_of_ble_eq_true rfl)
  rw [lg_entry_eq]
  generalize (lg_sl ([.ref (E.2.1 147), .int a1, .int a2]) ++ List.replicate (3 - (lg_sl ([.ref (E.2.1 147), .int a1, .int a2])).length) Slot.unset).toArray = ls at hl ⊢
  have hl : lv_has ls 3 [(0, .ref (E.2.1 147)), (1, .int a1), (2, .int a2)] := hl
  unfold f_X12_notMark at hf
  have kw0 := hts (.fieldLink RX12 110 "MilkTwiceModel" "now" "I") (List.mem_of_getElem? (i := 1) rfl)
  have hinX12 : ∀ w ∈ u_ws RX12 TX12 29, w ∈ wsX12_notMark := fun w h => List.mem_cons_of_mem _ (List.mem_append_right _ h)
  refine lv_aload_n hx hb dX12_notMark_0 rfl (lv_at hl 0 rfl) ?_
  refine lv_iload_n hx hb dX12_notMark_1 rfl (lv_at hl 1 rfl) ?_
  refine lv_iload_n hx hb dX12_notMark_2 rfl (lv_at hl 2 rfl) ?_
  refine mt_b1I hf (fun r2 hg1 hf => ?_)
  refine mt_goi (mt_runV (i := 147) (As := [.int a1, .int a2]) (rest := []) ⟨hx, hb, hml, hown, hts⟩ hI hH (c_X12_isLine l E a1 a2 M u _ hg1) (cwV 2 hts gX12_notMark_X12_isLine rfl rfl rfl (by decide +kernel) ⟨Nat.le_of_ble_eq_true rfl, Nat.le_of_ble_eq_true rfl⟩) mt_T147 rfl rfl hl.1 rfl (Nat.le_of_ble_eq_true rfl) dX12_notMark_3 ⟨Nat.zero_le _, Nat.zero_le _⟩) hS (fun H locs hH hS => ?_)
  refine lv_if_ne (tgt := 13) hx hb dX12_notMark_6 (by decide) (fun c3 => ?_) (fun c3 => ?_)
  · have hf := mt_ifF c3 hf
    refine lv_aload_n hx hb dX12_notMark_13 rfl (lv_at hl 0 rfl) ?_
    refine mt_geti (C := RX12) (T := TX12) (N := 29) hx hb hts hinX12 hown hI hH mt_T147 rfl 9 (by decide) kw0 rfl rfl dX12_notMark_14 ?_
    refine lv_sipush (v := 999) hx hb dX12_notMark_17 (by decide) ?_
    refine lv_icmp_ne (tgt := 28) hx hb dX12_notMark_20 (by decide) (fun c4 => ?_) (fun c4 => ?_)
    · have hf := mt_ifF c4 hf
      refine lv_iconst (v := 0) hx hb dX12_notMark_28 (by decide) ?_
      have i1 := mt_so1 hf
      subst i1
      exact mt_iret hx hb hr hI hH hS hlocks dX12_notMark_29
    · have hf := mt_ifT c4 hf
      refine lv_bipush (v := (-6)) hx hb dX12_notMark_23 (by decide) ?_
      refine lv_goto (tgt := 29) hx hb dX12_notMark_25 (by decide) ?_
      have i1 := mt_so1 hf
      subst i1
      exact mt_iret hx hb hr hI hH hS hlocks dX12_notMark_29
  · have hf := mt_ifT c3 hf
    refine lv_iconst (v := (-1)) hx hb dX12_notMark_9 (by decide) ?_
    refine lv_goto (tgt := 29) hx hb dX12_notMark_10 (by decide) ?_
    have i1 := mt_so1 hf
    subst i1
    exact mt_iret hx hb hr hI hH hS hlocks dX12_notMark_29
set_option maxHeartbeats 4000000 in
set_option maxRecDepth 100000 in
theorem c_X12_writes (l : Launch) (E : mt_E) (a1 : Int32) (a2 : Int32) (M : mt_M) (u : mt_U) (r : Int32) (M' : mt_M) (hf : f_X12_writes a1 a2 M = some (r, M')) : Met l yX12_writes wsX12_writes ({ frames := 3, cells := 0, slots := 0, locals := 65 } : Room) (mt_P E [.ref (E.2.1 147), .int a1, .int a2] M u) (mt_Qi E r M' u) 0 0 (mt_A E) := by
  refine Met.ofW (cc := cX12_writes) (maxL := 4) (ret := (some .int)) (by decide) rfl ?_
  intro p e s mid args below meth c0 s₁ B hml hv
  obtain ⟨rfl, hI, hH⟩ := hv
  have hx := B.exec
  have hb := B.bytes
  have hr := B.returns
  have hts := atoms_spec (ws := wsX12_writes) B.pre
  have hown : s.vm.findClass RX12 = some mid.cls := findClass_of_methodNamed B.named
  have hlocks := B.notSynchronized
  have hS : va_S (mt_A E) s.heap s.heap [] := va_S.rf
  have hl := lv_entry ([.ref (E.2.1 147), .int a1, .int a2]) (n := 4) (Nat.le_of_ble_eq_true rfl)
  rw [lg_entry_eq]
  generalize (lg_sl ([.ref (E.2.1 147), .int a1, .int a2]) ++ List.replicate (4 - (lg_sl ([.ref (E.2.1 147), .int a1, .int a2])).length) Slot.unset).toArray = ls at hl ⊢
  have hl : lv_has ls 4 [(0, .ref (E.2.1 147)), (1, .int a1), (2, .int a2)] := hl
  unfold f_X12_writes at hf
  have kw0 := hts (.fieldLink RX12 110 "MilkTwiceModel" "now" "I") (List.mem_of_getElem? (i := 1) rfl)
  have hinX12 : ∀ w ∈ u_ws RX12 TX12 29, w ∈ wsX12_writes := fun w h => List.mem_cons_of_mem _ (List.mem_append_right _ h)
  refine lv_aload_n hx hb dX12_writes_0 rfl (lv_at hl 0 rfl) ?_
  refine lv_iload_n hx hb dX12_writes_1 rfl (lv_at hl 1 rfl) ?_
  refine lv_iload_n hx hb dX12_writes_2 rfl (lv_at hl 2 rfl) ?_
  refine mt_b1I hf (fun r2 hg1 hf => ?_)
  refine mt_goi (mt_runV (i := 147) (As := [.int a1, .int a2]) (rest := []) ⟨hx, hb, hml, hown, hts⟩ hI hH (c_X12_notMark l E a1 a2 M u _ hg1) (cwV 2 hts gX12_writes_X12_notMark rfl rfl rfl (by decide +kernel) ⟨Nat.le_of_ble_eq_true rfl, Nat.le_of_ble_eq_true rfl⟩) mt_T147 rfl rfl hl.1 rfl (Nat.le_of_ble_eq_true rfl) dX12_writes_3 ⟨Nat.zero_le _, Nat.zero_le _⟩) hS (fun H locs hH hS => ?_)
  refine lv_istore_n (lv' := [(3, .int r2), (0, .ref (E.2.1 147)), (1, .int a1), (2, .int a2)]) hx hb dX12_writes_6 rfl hl (by decide) rfl (fun ls hl => ?_)
  refine lv_iload_n hx hb dX12_writes_7 rfl (lv_at hl 0 rfl) ?_
  refine lv_if_eq (tgt := 17) hx hb dX12_writes_8 (by decide) (fun c3 => ?_) (fun c3 => ?_)
  · have hf := mt_ifT c3 hf
    refine lv_aload_n hx hb dX12_writes_17 rfl (lv_at hl 1 rfl) ?_
    refine mt_b1I hf (fun M5 hg4 hf => ?_)
    refine mt_gov (mt_runV (i := 147) (As := []) (rest := []) ⟨hx, hb, hml, hown, hts⟩ hI hH (c_X12_keepsBack l E M u _ hg4) (cwV 0 hts gX12_writes_X12_keepsBack rfl rfl rfl (by decide +kernel) ⟨Nat.le_of_ble_eq_true rfl, Nat.le_of_ble_eq_true rfl⟩) mt_T147 rfl rfl hl.1 rfl (Nat.le_of_ble_eq_true rfl) dX12_writes_18 ⟨Nat.zero_le _, Nat.zero_le _⟩) hS (fun H locs hH hS => ?_)
    refine lv_aload_n hx hb dX12_writes_21 rfl (lv_at hl 1 rfl) ?_
    refine lv_iload_n hx hb dX12_writes_22 rfl (lv_at hl 2 rfl) ?_
    refine lv_iload_n hx hb dX12_writes_23 rfl (lv_at hl 3 rfl) ?_
    refine lv_iconst (v := 1) hx hb dX12_writes_24 (by decide) ?_
    refine mt_b1I hf (fun M7 hg6 hf => ?_)
    refine mt_gov (mt_runV (i := 147) (As := [.int a1, .int a2, .int (1 : Int32)]) (rest := []) ⟨hx, hb, hml, hown, hts⟩ hI hH (c_X12_marks l E a1 a2 (1 : Int32) M5 u _ hg6) (cwV 3 hts gX12_writes_X12_marks rfl rfl rfl (by decide +kernel) ⟨Nat.le_of_ble_eq_true rfl, Nat.le_of_ble_eq_true rfl⟩) mt_T147 rfl rfl hl.1 rfl (Nat.le_of_ble_eq_true rfl) dX12_writes_25 ⟨Nat.zero_le _, Nat.zero_le _⟩) hS (fun H locs hH hS => ?_)
    refine lv_aload_n hx hb dX12_writes_28 rfl (lv_at hl 1 rfl) ?_
    refine mt_geti (C := RX12) (T := TX12) (N := 29) hx hb hts hinX12 hown hI hH mt_T147 rfl 9 (by decide) kw0 rfl rfl dX12_writes_29 ?_
    obtain ⟨i1, i2⟩ := mt_so2 hf
    subst i1
    subst i2
    exact mt_iret hx hb hr hI hH hS hlocks dX12_writes_32
  · have hf := mt_ifF c3 hf
    refine lv_aload_n hx hb dX12_writes_11 rfl (lv_at hl 1 rfl) ?_
    refine lv_iload_n hx hb dX12_writes_12 rfl (lv_at hl 0 rfl) ?_
    refine mt_b2I hf (fun r9 M10 hg8 hf => ?_)
    refine mt_goi (mt_runV (i := 147) (As := [.int r2]) (rest := []) ⟨hx, hb, hml, hown, hts⟩ hI hH (c_X12_no l E r2 M u _ _ hg8) (cwV 1 hts gX12_writes_X12_no rfl rfl rfl (by decide +kernel) ⟨Nat.le_of_ble_eq_true rfl, Nat.le_of_ble_eq_true rfl⟩) mt_T147 rfl rfl hl.1 rfl (Nat.le_of_ble_eq_true rfl) dX12_writes_13 ⟨Nat.zero_le _, Nat.zero_le _⟩) hS (fun H locs hH hS => ?_)
    obtain ⟨i1, i2⟩ := mt_so2 hf
    subst i1
    subst i2
    exact mt_iret hx hb hr hI hH hS hlocks dX12_writes_16
set_option maxHeartbeats 4000000 in
set_option maxRecDepth 100000 in
theorem c_X12_ticks (l : Launch) (E : mt_E) (a1 : Int32) (a2 : Int32) (M : mt_M) (u : mt_U) (r : Int32) (M' : mt_M) (hf : f_X12_ticks a1 a2 M = some (r, M')) : Met l yX12_ticks wsX12_ticks ({ frames := 3, cells := 0, slots := 0, locals := 66 } : Room) (mt_P E [.ref (E.2.1 147), .int a1, .int a2] M u) (mt_Qi E r M' u) 0 0 (mt_A E) := by
  refine Met.ofW (cc := cX12_ticks) (maxL := 4) (ret := (some .int)) (by decide) rfl ?_
  intro p e s mid args below meth c0 s₁ B hml hv
  obtain ⟨rfl, hI, hH⟩ := hv
  have hx := B.exec
  have hb := B.bytes
  have hr := B.returns
  have hts := atoms_spec (ws := wsX12_ticks) B.pre
  have hown : s.vm.findClass RX12 = some mid.cls := findClass_of_methodNamed B.named
  have hlocks := B.notSynchronized
  have hS : va_S (mt_A E) s.heap s.heap [] := va_S.rf
  have hl := lv_entry ([.ref (E.2.1 147), .int a1, .int a2]) (n := 4) (Nat.le_of_ble_eq_true rfl)
  rw [lg_entry_eq]
  generalize (lg_sl ([.ref (E.2.1 147), .int a1, .int a2]) ++ List.replicate (4 - (lg_sl ([.ref (E.2.1 147), .int a1, .int a2])).length) Slot.unset).toArray = ls at hl ⊢
  have hl : lv_has ls 4 [(0, .ref (E.2.1 147)), (1, .int a1), (2, .int a2)] := hl
  unfold f_X12_ticks at hf
  have kw0 := hts (.fieldLink RX12 31 "MilkTwiceModel" "sums" "[I") (List.mem_of_getElem? (i := 1) rfl)
  have hinX12 : ∀ w ∈ u_ws RX12 TX12 29, w ∈ wsX12_ticks := fun w h => List.mem_cons_of_mem _ (List.mem_append_right _ h)
  refine lv_aload_n hx hb dX12_ticks_0 rfl (lv_at hl 0 rfl) ?_
  refine lv_iload_n hx hb dX12_ticks_1 rfl (lv_at hl 1 rfl) ?_
  refine lv_iload_n hx hb dX12_ticks_2 rfl (lv_at hl 2 rfl) ?_
  refine mt_b1I hf (fun r2 hg1 hf => ?_)
  refine mt_goi (mt_runV (i := 147) (As := [.int a1, .int a2]) (rest := []) ⟨hx, hb, hml, hown, hts⟩ hI hH (c_X12_notMark l E a1 a2 M u _ hg1) (cwV 2 hts gX12_ticks_X12_notMark rfl rfl rfl (by decide +kernel) ⟨Nat.le_of_ble_eq_true rfl, Nat.le_of_ble_eq_true rfl⟩) mt_T147 rfl rfl hl.1 rfl (Nat.le_of_ble_eq_true rfl) dX12_ticks_3 ⟨Nat.zero_le _, Nat.zero_le _⟩) hS (fun H locs hH hS => ?_)
  refine lv_istore_n (lv' := [(3, .int r2), (0, .ref (E.2.1 147)), (1, .int a1), (2, .int a2)]) hx hb dX12_ticks_6 rfl hl (by decide) rfl (fun ls hl => ?_)
  refine lv_iload_n hx hb dX12_ticks_7 rfl (lv_at hl 0 rfl) ?_
  refine lv_if_eq (tgt := 17) hx hb dX12_ticks_8 (by decide) (fun c3 => ?_) (fun c3 => ?_)
  · have hf := mt_ifT c3 hf
    refine lv_aload_n hx hb dX12_ticks_17 rfl (lv_at hl 1 rfl) ?_
    refine mt_b1I hf (fun M5 hg4 hf => ?_)
    refine mt_gov (mt_runV (i := 147) (As := []) (rest := []) ⟨hx, hb, hml, hown, hts⟩ hI hH (c_X12_keepsBack l E M u _ hg4) (cwV 0 hts gX12_ticks_X12_keepsBack rfl rfl rfl (by decide +kernel) ⟨Nat.le_of_ble_eq_true rfl, Nat.le_of_ble_eq_true rfl⟩) mt_T147 rfl rfl hl.1 rfl (Nat.le_of_ble_eq_true rfl) dX12_ticks_18 ⟨Nat.zero_le _, Nat.zero_le _⟩) hS (fun H locs hH hS => ?_)
    refine lv_aload_n hx hb dX12_ticks_21 rfl (lv_at hl 1 rfl) ?_
    refine lv_iload_n hx hb dX12_ticks_22 rfl (lv_at hl 2 rfl) ?_
    refine lv_iload_n hx hb dX12_ticks_23 rfl (lv_at hl 3 rfl) ?_
    refine mt_b1I hf (fun M7 hg6 hf => ?_)
    refine mt_gov (mt_runV (i := 147) (As := [.int a1, .int a2]) (rest := []) ⟨hx, hb, hml, hown, hts⟩ hI hH (c_X12_buys l E a1 a2 M5 u _ hg6) (cwV 2 hts gX12_ticks_X12_buys rfl rfl rfl (by decide +kernel) ⟨Nat.le_of_ble_eq_true rfl, Nat.le_of_ble_eq_true rfl⟩) mt_T147 rfl rfl hl.1 rfl (Nat.le_of_ble_eq_true rfl) dX12_ticks_24 ⟨Nat.zero_le _, Nat.zero_le _⟩) hS (fun H locs hH hS => ?_)
    refine lv_aload_n hx hb dX12_ticks_27 rfl (lv_at hl 1 rfl) ?_
    refine mt_getr (C := RX12) (T := TX12) (N := 29) hx hb hts hinX12 hown hI hH mt_T147 rfl 7 (by decide) kw0 rfl rfl dX12_ticks_28 ?_
    refine lv_iconst (v := 0) hx hb dX12_ticks_31 (by decide) ?_
    refine mt_iald hx hb hI hH mt_T155 (mt_vl (by decide)) dX12_ticks_32 ?_
    obtain ⟨i1, i2⟩ := mt_so2 hf
    subst i1
    subst i2
    exact mt_iret hx hb hr hI hH hS hlocks dX12_ticks_33
  · have hf := mt_ifF c3 hf
    refine lv_aload_n hx hb dX12_ticks_11 rfl (lv_at hl 1 rfl) ?_
    refine lv_iload_n hx hb dX12_ticks_12 rfl (lv_at hl 0 rfl) ?_
    refine mt_b2I hf (fun r9 M10 hg8 hf => ?_)
    refine mt_goi (mt_runV (i := 147) (As := [.int r2]) (rest := []) ⟨hx, hb, hml, hown, hts⟩ hI hH (c_X12_no l E r2 M u _ _ hg8) (cwV 1 hts gX12_ticks_X12_no rfl rfl rfl (by decide +kernel) ⟨Nat.le_of_ble_eq_true rfl, Nat.le_of_ble_eq_true rfl⟩) mt_T147 rfl rfl hl.1 rfl (Nat.le_of_ble_eq_true rfl) dX12_ticks_13 ⟨Nat.zero_le _, Nat.zero_le _⟩) hS (fun H locs hH hS => ?_)
    obtain ⟨i1, i2⟩ := mt_so2 hf
    subst i1
    subst i2
    exact mt_iret hx hb hr hI hH hS hlocks dX12_ticks_16
set_option maxHeartbeats 4000000 in
set_option maxRecDepth 100000 in
theorem c_X12_strikes (l : Launch) (E : mt_E) (a1 : Int32) (a2 : Int32) (M : mt_M) (u : mt_U) (r : Int32) (M' : mt_M) (hf : f_X12_strikes a1 a2 M = some (r, M')) : Met l yX12_strikes wsX12_strikes ({ frames := 3, cells := 0, slots := 0, locals := 65 } : Room) (mt_P E [.ref (E.2.1 147), .int a1, .int a2] M u) (mt_Qi E r M' u) 0 0 (mt_A E) := by
  refine Met.ofW (cc := cX12_strikes) (maxL := 4) (ret := (some .int)) (by decide) rfl ?_
  intro p e s mid args below meth c0 s₁ B hml hv
  obtain ⟨rfl, hI, hH⟩ := hv
  have hx := B.exec
  have hb := B.bytes
  have hr := B.returns
  have hts := atoms_spec (ws := wsX12_strikes) B.pre
  have hown : s.vm.findClass RX12 = some mid.cls := findClass_of_methodNamed B.named
  have hlocks := B.notSynchronized
  have hS : va_S (mt_A E) s.heap s.heap [] := va_S.rf
  have hl := lv_entry ([.ref (E.2.1 147), .int a1, .int a2]) (n := 4) (Nat.le_of_ble_eq_true rfl)
  rw [lg_entry_eq]
  generalize (lg_sl ([.ref (E.2.1 147), .int a1, .int a2]) ++ List.replicate (4 - (lg_sl ([.ref (E.2.1 147), .int a1, .int a2])).length) Slot.unset).toArray = ls at hl ⊢
  have hl : lv_has ls 4 [(0, .ref (E.2.1 147)), (1, .int a1), (2, .int a2)] := hl
  unfold f_X12_strikes at hf
  have kw0 := hts (.fieldLink RX12 110 "MilkTwiceModel" "now" "I") (List.mem_of_getElem? (i := 1) rfl)
  have hinX12 : ∀ w ∈ u_ws RX12 TX12 29, w ∈ wsX12_strikes := fun w h => List.mem_cons_of_mem _ (List.mem_append_right _ h)
  refine lv_aload_n hx hb dX12_strikes_0 rfl (lv_at hl 0 rfl) ?_
  refine lv_iload_n hx hb dX12_strikes_1 rfl (lv_at hl 1 rfl) ?_
  refine lv_iload_n hx hb dX12_strikes_2 rfl (lv_at hl 2 rfl) ?_
  refine mt_b1I hf (fun r2 hg1 hf => ?_)
  refine mt_goi (mt_runV (i := 147) (As := [.int a1, .int a2]) (rest := []) ⟨hx, hb, hml, hown, hts⟩ hI hH (c_X12_notMark l E a1 a2 M u _ hg1) (cwV 2 hts gX12_strikes_X12_notMark rfl rfl rfl (by decide +kernel) ⟨Nat.le_of_ble_eq_true rfl, Nat.le_of_ble_eq_true rfl⟩) mt_T147 rfl rfl hl.1 rfl (Nat.le_of_ble_eq_true rfl) dX12_strikes_3 ⟨Nat.zero_le _, Nat.zero_le _⟩) hS (fun H locs hH hS => ?_)
  refine lv_istore_n (lv' := [(3, .int r2), (0, .ref (E.2.1 147)), (1, .int a1), (2, .int a2)]) hx hb dX12_strikes_6 rfl hl (by decide) rfl (fun ls hl => ?_)
  refine lv_iload_n hx hb dX12_strikes_7 rfl (lv_at hl 0 rfl) ?_
  refine lv_if_eq (tgt := 17) hx hb dX12_strikes_8 (by decide) (fun c3 => ?_) (fun c3 => ?_)
  · have hf := mt_ifT c3 hf
    refine lv_aload_n hx hb dX12_strikes_17 rfl (lv_at hl 1 rfl) ?_
    refine mt_b1I hf (fun M5 hg4 hf => ?_)
    refine mt_gov (mt_runV (i := 147) (As := []) (rest := []) ⟨hx, hb, hml, hown, hts⟩ hI hH (c_X12_keepsBack l E M u _ hg4) (cwV 0 hts gX12_strikes_X12_keepsBack rfl rfl rfl (by decide +kernel) ⟨Nat.le_of_ble_eq_true rfl, Nat.le_of_ble_eq_true rfl⟩) mt_T147 rfl rfl hl.1 rfl (Nat.le_of_ble_eq_true rfl) dX12_strikes_18 ⟨Nat.zero_le _, Nat.zero_le _⟩) hS (fun H locs hH hS => ?_)
    refine lv_aload_n hx hb dX12_strikes_21 rfl (lv_at hl 1 rfl) ?_
    refine lv_iload_n hx hb dX12_strikes_22 rfl (lv_at hl 2 rfl) ?_
    refine lv_iload_n hx hb dX12_strikes_23 rfl (lv_at hl 3 rfl) ?_
    refine lv_iconst (v := 0) hx hb dX12_strikes_24 (by decide) ?_
    refine mt_b1I hf (fun M7 hg6 hf => ?_)
    refine mt_gov (mt_runV (i := 147) (As := [.int a1, .int a2, .int (0 : Int32)]) (rest := []) ⟨hx, hb, hml, hown, hts⟩ hI hH (c_X12_marks l E a1 a2 (0 : Int32) M5 u _ hg6) (cwV 3 hts gX12_strikes_X12_marks rfl rfl rfl (by decide +kernel) ⟨Nat.le_of_ble_eq_true rfl, Nat.le_of_ble_eq_true rfl⟩) mt_T147 rfl rfl hl.1 rfl (Nat.le_of_ble_eq_true rfl) dX12_strikes_25 ⟨Nat.zero_le _, Nat.zero_le _⟩) hS (fun H locs hH hS => ?_)
    refine lv_aload_n hx hb dX12_strikes_28 rfl (lv_at hl 1 rfl) ?_
    refine mt_geti (C := RX12) (T := TX12) (N := 29) hx hb hts hinX12 hown hI hH mt_T147 rfl 9 (by decide) kw0 rfl rfl dX12_strikes_29 ?_
    obtain ⟨i1, i2⟩ := mt_so2 hf
    subst i1
    subst i2
    exact mt_iret hx hb hr hI hH hS hlocks dX12_strikes_32
  · have hf := mt_ifF c3 hf
    refine lv_aload_n hx hb dX12_strikes_11 rfl (lv_at hl 1 rfl) ?_
    refine lv_iload_n hx hb dX12_strikes_12 rfl (lv_at hl 0 rfl) ?_
    refine mt_b2I hf (fun r9 M10 hg8 hf => ?_)
    refine mt_goi (mt_runV (i := 147) (As := [.int r2]) (rest := []) ⟨hx, hb, hml, hown, hts⟩ hI hH (c_X12_no l E r2 M u _ _ hg8) (cwV 1 hts gX12_strikes_X12_no rfl rfl rfl (by decide +kernel) ⟨Nat.le_of_ble_eq_true rfl, Nat.le_of_ble_eq_true rfl⟩) mt_T147 rfl rfl hl.1 rfl (Nat.le_of_ble_eq_true rfl) dX12_strikes_13 ⟨Nat.zero_le _, Nat.zero_le _⟩) hS (fun H locs hH hS => ?_)
    obtain ⟨i1, i2⟩ := mt_so2 hf
    subst i1
    subst i2
    exact mt_iret hx hb hr hI hH hS hlocks dX12_strikes_16
set_option maxHeartbeats 4000000 in
set_option maxRecDepth 100000 in
theorem c_X12_rule (l : Launch) (E : mt_E) (a1 : Int32) (M : mt_M) (u : mt_U) (r : Int32) (M' : mt_M) (hf : f_X12_rule a1 M = some (r, M')) : Met l yX12_rule wsX12_rule ({ frames := 1, cells := 0, slots := 0, locals := 22 } : Room) (mt_P E [.ref (E.2.1 147), .int a1] M u) (mt_Qi E r M' u) 0 0 (mt_A E) := by
  refine Met.ofW (cc := cX12_rule) (maxL := 3) (ret := (some .int)) (by decide) rfl ?_
  intro p e s mid args below meth c0 s₁ B hml hv
  obtain ⟨rfl, hI, hH⟩ := hv
  have hx := B.exec
  have hb := B.bytes
  have hr := B.returns
  have hts := atoms_spec (ws := wsX12_rule) B.pre
  have hown : s.vm.findClass RX12 = some mid.cls := findClass_of_methodNamed B.named
  have hlocks := B.notSynchronized
  have hS : va_S (mt_A E) s.heap s.heap [] := va_S.rf
  have hl := lv_entry ([.ref (E.2.1 147), .int a1]) (n := 3) (Nat.le_of_ble_eq_true rfl)
  rw [lg_entry_eq]
  generalize (lg_sl ([.ref (E.2.1 147), .int a1]) ++ List.replicate (3 - (lg_sl ([.ref (E.2.1 147), .int a1])).length) Slot.unset).toArray = ls at hl ⊢
  have hl : lv_has ls 3 [(0, .ref (E.2.1 147)), (1, .int a1)] := hl
  unfold f_X12_rule at hf
  have kw0 := hts (.fieldLink RX12 153 "MilkTwiceModel" "backs" "I") (List.mem_of_getElem? (i := 1) rfl)
  have kw1 := hts (.fieldLink RX12 133 "MilkTwiceModel" "rule" "I") (List.mem_of_getElem? (i := 2) rfl)
  have hinX12 : ∀ w ∈ u_ws RX12 TX12 29, w ∈ wsX12_rule := fun w h => List.mem_cons_of_mem _ (List.mem_append_right _ h)
  refine lv_iload_n hx hb dX12_rule_0 rfl (lv_at hl 1 rfl) ?_
  refine lv_iconst (v := 0) hx hb dX12_rule_1 (by decide) ?_
  refine lv_iconst (v := 3) hx hb dX12_rule_2 (by decide) ?_
  refine mt_b1I hf (fun r2 hg1 hf => ?_)
  refine mt_goi (mt_runS (As := [.int a1, .int (0 : Int32), .int (3 : Int32)]) (rest := []) ⟨hx, hb, hml, hown, hts⟩ hI hH (c_X12_isIn l E a1 (0 : Int32) (3 : Int32) M u _ hg1) (va_cwS 3 hts gX12_rule_X12_isIn rfl rfl rfl (by decide +kernel) ⟨Nat.le_of_ble_eq_true rfl, Nat.le_of_ble_eq_true rfl⟩) rfl hl.1 rfl (Nat.le_of_ble_eq_true rfl) dX12_rule_3 ⟨Nat.zero_le _, Nat.zero_le _⟩) hS (fun H locs hH hS => ?_)
  refine lv_if_ne (tgt := 16) hx hb dX12_rule_6 (by decide) (fun c3 => ?_) (fun c3 => ?_)
  · have hf := mt_ifF c3 hf
    refine lv_aload_n hx hb dX12_rule_16 rfl (lv_at hl 0 rfl) ?_
    refine lv_iconst (v := 0) hx hb dX12_rule_17 (by decide) ?_
    refine mt_puti (ty := .int) (C := RX12) (T := TX12) (N := 29) hx hb hts hinX12 tyX12 tyX12_ok nmX12 hown hI hH hS mt_T147 rfl 23 (by decide) kw0 rfl rfl (by decide +kernel) rfl rfl rfl dX12_rule_18 (fun H locs hH hS => ?_)
    refine mt_ltI hf (fun M4 eM4 hf => ?_)
    rw [← eM4] at hH
    refine lv_aload_n hx hb dX12_rule_21 rfl (lv_at hl 0 rfl) ?_
    refine mt_geti (C := RX12) (T := TX12) (N := 29) hx hb hts hinX12 hown hI hH mt_T147 rfl 11 (by decide) kw1 rfl rfl dX12_rule_22 ?_
    refine mt_lti hf (fun x5 ex5 hf => ?_)
    refine lv_istore_n (lv' := [(2, .int x5), (0, .ref (E.2.1 147)), (1, .int a1)]) hx hb dX12_rule_25 rfl hl (by decide) rfl (fun ls hl => ?_)
    refine lv_aload_n hx hb dX12_rule_26 rfl (lv_at hl 1 rfl) ?_
    refine lv_iload_n hx hb dX12_rule_27 rfl (lv_at hl 2 rfl) ?_
    refine mt_puti (ty := .int) (C := RX12) (T := TX12) (N := 29) hx hb hts hinX12 tyX12 tyX12_ok nmX12 hown hI hH hS mt_T147 rfl 11 (by decide) kw1 rfl rfl (by decide +kernel) rfl rfl rfl dX12_rule_28 (fun H locs hH hS => ?_)
    refine mt_ltI hf (fun M6 eM6 hf => ?_)
    rw [← eM6] at hH
    refine lv_iload_n hx hb dX12_rule_31 rfl (lv_at hl 0 rfl) ?_
    obtain ⟨i1, i2⟩ := mt_so2 hf
    subst i1
    subst i2
    exact mt_iret hx hb hr hI hH hS hlocks dX12_rule_32
  · have hf := mt_ifT c3 hf
    refine lv_aload_n hx hb dX12_rule_9 rfl (lv_at hl 0 rfl) ?_
    refine lv_bipush (v := (-2)) hx hb dX12_rule_10 (by decide) ?_
    refine mt_b2I hf (fun r8 M9 hg7 hf => ?_)
    refine mt_goi (mt_runV (i := 147) (As := [.int (-2 : Int32)]) (rest := []) ⟨hx, hb, hml, hown, hts⟩ hI hH (c_X12_no l E (-2 : Int32) M u _ _ hg7) (cwV 1 hts gX12_rule_X12_no rfl rfl rfl (by decide +kernel) ⟨Nat.le_of_ble_eq_true rfl, Nat.le_of_ble_eq_true rfl⟩) mt_T147 rfl rfl hl.1 rfl (Nat.le_of_ble_eq_true rfl) dX12_rule_12 ⟨Nat.zero_le _, Nat.zero_le _⟩) hS (fun H locs hH hS => ?_)
    obtain ⟨i1, i2⟩ := mt_so2 hf
    subst i1
    subst i2
    exact mt_iret hx hb hr hI hH hS hlocks dX12_rule_15
set_option maxHeartbeats 4000000 in
set_option maxRecDepth 100000 in
theorem c_X12_join (l : Launch) (E : mt_E)  (M : mt_M) (u : mt_U) (r : Int32) (M' : mt_M) (hf : f_X12_join M = some (r, M')) : Met l yX12_join wsX12_join ({ frames := 3, cells := 0, slots := 0, locals := 73 } : Room) (mt_P E [.ref (E.2.1 147)] M u) (mt_Qi E r M' u) 0 0 (mt_A E) := by
  refine Met.ofW (cc := cX12_join) (maxL := 1) (ret := (some .int)) (by decide) rfl ?_
  intro p e s mid args below meth c0 s₁ B hml hv
  obtain ⟨rfl, hI, hH⟩ := hv
  have hx := B.exec
  have hb := B.bytes
  have hr := B.returns
  have hts := atoms_spec (ws := wsX12_join) B.pre
  have hown : s.vm.findClass RX12 = some mid.cls := findClass_of_methodNamed B.named
  have hlocks := B.notSynchronized
  have hS : va_S (mt_A E) s.heap s.heap [] := va_S.rf
  have hl := lv_entry ([.ref (E.2.1 147)]) (n := 1) (Nat.le_of_ble_eq_true rfl)
  rw [lg_entry_eq]
  generalize (lg_sl ([.ref (E.2.1 147)]) ++ List.replicate (1 - (lg_sl ([.ref (E.2.1 147)])).length) Slot.unset).toArray = ls at hl ⊢
  have hl : lv_has ls 1 [(0, .ref (E.2.1 147))] := hl
  unfold f_X12_join at hf
  refine lv_aload_n hx hb dX12_join_0 rfl (lv_at hl 0 rfl) ?_
  refine mt_b1I hf (fun M2 hg1 hf => ?_)
  refine mt_gov (mt_runV (i := 147) (As := []) (rest := []) ⟨hx, hb, hml, hown, hts⟩ hI hH (c_X12_keepsBack l E M u _ hg1) (cwV 0 hts gX12_join_X12_keepsBack rfl rfl rfl (by decide +kernel) ⟨Nat.le_of_ble_eq_true rfl, Nat.le_of_ble_eq_true rfl⟩) mt_T147 rfl rfl hl.1 rfl (Nat.le_of_ble_eq_true rfl) dX12_join_1 ⟨Nat.zero_le _, Nat.zero_le _⟩) hS (fun H locs hH hS => ?_)
  refine lv_aload_n hx hb dX12_join_4 rfl (lv_at hl 0 rfl) ?_
  refine mt_b2I hf (fun r4 M5 hg3 hf => ?_)
  refine mt_goi (mt_runV (i := 147) (As := []) (rest := []) ⟨hx, hb, hml, hown, hts⟩ hI hH (c_X12_joins l E M2 u _ _ hg3) (cwV 0 hts gX12_join_X12_joins rfl rfl rfl (by decide +kernel) ⟨Nat.le_of_ble_eq_true rfl, Nat.le_of_ble_eq_true rfl⟩) mt_T147 rfl rfl hl.1 rfl (Nat.le_of_ble_eq_true rfl) dX12_join_5 ⟨Nat.zero_le _, Nat.zero_le _⟩) hS (fun H locs hH hS => ?_)
  obtain ⟨i1, i2⟩ := mt_so2 hf
  subst i1
  subst i2
  exact mt_iret hx hb hr hI hH hS hlocks dX12_join_8
set_option maxHeartbeats 4000000 in
set_option maxRecDepth 100000 in
theorem c_X12_day (l : Launch) (E : mt_E)  (M : mt_M) (u : mt_U) (r : Int32) (M' : mt_M) (hf : f_X12_day M = some (r, M')) : Met l yX12_day wsX12_day ({ frames := 3, cells := 0, slots := 0, locals := 67 } : Room) (mt_P E [.ref (E.2.1 147)] M u) (mt_Qi E r M' u) 0 0 (mt_A E) := by
  refine Met.ofW (cc := cX12_day) (maxL := 1) (ret := (some .int)) (by decide) rfl ?_
  intro p e s mid args below meth c0 s₁ B hml hv
  obtain ⟨rfl, hI, hH⟩ := hv
  have hx := B.exec
  have hb := B.bytes
  have hr := B.returns
  have hts := atoms_spec (ws := wsX12_day) B.pre
  have hown : s.vm.findClass RX12 = some mid.cls := findClass_of_methodNamed B.named
  have hlocks := B.notSynchronized
  have hS : va_S (mt_A E) s.heap s.heap [] := va_S.rf
  have hl := lv_entry ([.ref (E.2.1 147)]) (n := 1) (Nat.le_of_ble_eq_true rfl)
  rw [lg_entry_eq]
  generalize (lg_sl ([.ref (E.2.1 147)]) ++ List.replicate (1 - (lg_sl ([.ref (E.2.1 147)])).length) Slot.unset).toArray = ls at hl ⊢
  have hl : lv_has ls 1 [(0, .ref (E.2.1 147))] := hl
  unfold f_X12_day at hf
  have kw0 := hts (.fieldLink RX12 121 "MilkTwiceModel" "days" "I") (List.mem_of_getElem? (i := 1) rfl)
  have hinX12 : ∀ w ∈ u_ws RX12 TX12 29, w ∈ wsX12_day := fun w h => List.mem_cons_of_mem _ (List.mem_append_right _ h)
  refine lv_aload_n hx hb dX12_day_0 rfl (lv_at hl 0 rfl) ?_
  refine mt_geti (C := RX12) (T := TX12) (N := 29) hx hb hts hinX12 hown hI hH mt_T147 rfl 10 (by decide) kw0 rfl rfl dX12_day_1 ?_
  refine lv_sipush (v := 999) hx hb dX12_day_4 (by decide) ?_
  refine lv_icmp_ne (tgt := 17) hx hb dX12_day_7 (by decide) (fun c1 => ?_) (fun c1 => ?_)
  · have hf := mt_ifF c1 hf
    refine lv_aload_n hx hb dX12_day_17 rfl (lv_at hl 0 rfl) ?_
    refine mt_b1I hf (fun M3 hg2 hf => ?_)
    refine mt_gov (mt_runV (i := 147) (As := []) (rest := []) ⟨hx, hb, hml, hown, hts⟩ hI hH (c_X12_keepsBack l E M u _ hg2) (cwV 0 hts gX12_day_X12_keepsBack rfl rfl rfl (by decide +kernel) ⟨Nat.le_of_ble_eq_true rfl, Nat.le_of_ble_eq_true rfl⟩) mt_T147 rfl rfl hl.1 rfl (Nat.le_of_ble_eq_true rfl) dX12_day_18 ⟨Nat.zero_le _, Nat.zero_le _⟩) hS (fun H locs hH hS => ?_)
    refine lv_aload_n hx hb dX12_day_21 rfl (lv_at hl 0 rfl) ?_
    refine mt_b2I hf (fun r5 M6 hg4 hf => ?_)
    refine mt_goi (mt_runV (i := 147) (As := []) (rest := []) ⟨hx, hb, hml, hown, hts⟩ hI hH (c_X12_goesDay l E M3 u _ _ hg4) (cwV 0 hts gX12_day_X12_goesDay rfl rfl rfl (by decide +kernel) ⟨Nat.le_of_ble_eq_true rfl, Nat.le_of_ble_eq_true rfl⟩) mt_T147 rfl rfl hl.1 rfl (Nat.le_of_ble_eq_true rfl) dX12_day_22 ⟨Nat.zero_le _, Nat.zero_le _⟩) hS (fun H locs hH hS => ?_)
    obtain ⟨i1, i2⟩ := mt_so2 hf
    subst i1
    subst i2
    exact mt_iret hx hb hr hI hH hS hlocks dX12_day_25
  · have hf := mt_ifT c1 hf
    refine lv_aload_n hx hb dX12_day_10 rfl (lv_at hl 0 rfl) ?_
    refine lv_bipush (v := (-6)) hx hb dX12_day_11 (by decide) ?_
    refine mt_b2I hf (fun r8 M9 hg7 hf => ?_)
    refine mt_goi (mt_runV (i := 147) (As := [.int (-6 : Int32)]) (rest := []) ⟨hx, hb, hml, hown, hts⟩ hI hH (c_X12_no l E (-6 : Int32) M u _ _ hg7) (cwV 1 hts gX12_day_X12_no rfl rfl rfl (by decide +kernel) ⟨Nat.le_of_ble_eq_true rfl, Nat.le_of_ble_eq_true rfl⟩) mt_T147 rfl rfl hl.1 rfl (Nat.le_of_ble_eq_true rfl) dX12_day_13 ⟨Nat.zero_le _, Nat.zero_le _⟩) hS (fun H locs hH hS => ?_)
    obtain ⟨i1, i2⟩ := mt_so2 hf
    subst i1
    subst i2
    exact mt_iret hx hb hr hI hH hS hlocks dX12_day_16
set_option maxHeartbeats 4000000 in
set_option maxRecDepth 100000 in
theorem c_X12_wants (l : Launch) (E : mt_E) (a1 : Int32) (M : mt_M) (u : mt_U) (r : Int32) (hf : f_X12_wants a1 M = some (r)) : Met l yX12_wants wsX12_wants ({ frames := 0, cells := 0, slots := 0, locals := 0 } : Room) (mt_P E [.ref (E.2.1 147), .int a1] M u) (mt_Qi E r M u) 0 0 (mt_A E) := by
  refine Met.ofW (cc := cX12_wants) (maxL := 4) (ret := (some .int)) (by decide) rfl ?_
  intro p e s mid args below meth c0 s₁ B hml hv
  obtain ⟨rfl, hI, hH⟩ := hv
  have hx := B.exec
  have hb := B.bytes
  have hr := B.returns
  have hts := atoms_spec (ws := wsX12_wants) B.pre
  have hown : s.vm.findClass RX12 = some mid.cls := findClass_of_methodNamed B.named
  have hlocks := B.notSynchronized
  have hS : va_S (mt_A E) s.heap s.heap [] := va_S.rf
  have hl := lv_entry ([.ref (E.2.1 147), .int a1]) (n := 4) (Nat.le_of_ble_eq_true rfl)
  rw [lg_entry_eq]
  generalize (lg_sl ([.ref (E.2.1 147), .int a1]) ++ List.replicate (4 - (lg_sl ([.ref (E.2.1 147), .int a1])).length) Slot.unset).toArray = ls at hl ⊢
  have hl : lv_has ls 4 [(0, .ref (E.2.1 147)), (1, .int a1)] := hl
  unfold f_X12_wants at hf
  have kw0 := hts (.fieldLink RX12 59 "MilkTwiceModel" "things" "I") (List.mem_of_getElem? (i := 1) rfl)
  have kw1 := hts (.fieldLink RX12 25 "MilkTwiceModel" "wanted" "[I") (List.mem_of_getElem? (i := 2) rfl)
  have hinX12 : ∀ w ∈ u_ws RX12 TX12 29, w ∈ wsX12_wants := fun w h => List.mem_cons_of_mem _ (List.mem_append_right _ h)
  refine lv_iconst (v := 0) hx hb dX12_wants_0 (by decide) ?_
  refine lv_istore_n (lv' := [(2, .int (0 : Int32)), (0, .ref (E.2.1 147)), (1, .int a1)]) hx hb dX12_wants_1 rfl hl (by decide) rfl (fun ls hl => ?_)
  refine lv_iconst (v := 0) hx hb dX12_wants_2 (by decide) ?_
  refine lv_istore_n (lv' := [(3, .int (0 : Int32)), (2, .int (0 : Int32)), (0, .ref (E.2.1 147)), (1, .int a1)]) hx hb dX12_wants_3 rfl hl (by decide) rfl (fun ls hl => ?_)
  refine mt_lpI2 hf (fun (x1 : Int32) (x2 : Int32) => ∀ (H : Heap) (locs : List Loc) (ls : Array Slot), mt_H E M u H → va_S (mt_A E) s.heap H locs → lv_has ls 4 [(0, .ref (E.2.1 147)), (1, .int a1), (2, .int x1), (3, .int x2)] → W p l e (headSpec wsX12_wants ({ frames := 0, cells := 0, slots := 0, locals := 0 } : Room)).room s mid (([.ref (E.2.1 147), .int a1] : List Value).toArray) below meth c0 H locs 0 0 (MQ below (mt_Qi E r M u) (([.ref (E.2.1 147), .int a1] : List Value).toArray) s 0 0 (mt_A E)) (F0 mid 4 ls [])) ?_ _ _ _ hH hS (lv_sub hl [2, 3, 1, 0] rfl)
  intro k3 ih4 x1 x2 hf H locs ls hH hS hl
  refine lv_iload_n hx hb dX12_wants_4 rfl (lv_at hl 3 rfl) ?_
  refine lv_aload_n hx hb dX12_wants_5 rfl (lv_at hl 0 rfl) ?_
  refine mt_geti (C := RX12) (T := TX12) (N := 29) hx hb hts hinX12 hown hI hH mt_T147 rfl 8 (by decide) kw0 rfl rfl dX12_wants_6 ?_
  refine lv_icmp_ge (tgt := 34) hx hb dX12_wants_9 (by decide) (fun c5 => ?_) (fun c5 => ?_)
  · have hf := mt_ifT c5 hf
    refine lv_iload_n hx hb dX12_wants_34 rfl (lv_at hl 2 rfl) ?_
    have i1 := mt_so1 hf
    subst i1
    exact mt_iret hx hb hr hI hH hS hlocks dX12_wants_35
  · have hf := mt_ifF c5 hf
    refine lv_iload_n hx hb dX12_wants_12 rfl (lv_at hl 2 rfl) ?_
    refine lv_aload_n hx hb dX12_wants_13 rfl (lv_at hl 0 rfl) ?_
    refine mt_getr (C := RX12) (T := TX12) (N := 29) hx hb hts hinX12 hown hI hH mt_T147 rfl 5 (by decide) kw1 rfl rfl dX12_wants_14 ?_
    refine lv_bipush (v := 7) hx hb dX12_wants_17 (by decide) ?_
    refine lv_iload_n hx hb dX12_wants_19 rfl (lv_at hl 1 rfl) ?_
    refine lv_imul hx hb dX12_wants_20 ?_
    refine lv_iload_n hx hb dX12_wants_21 rfl (lv_at hl 3 rfl) ?_
    refine lv_iadd hx hb dX12_wants_22 ?_
    refine mt_ciI hf (fun q6 hf => ?_)
    refine mt_iald hx hb hI hH mt_T153 q6 dX12_wants_23 ?_
    refine lv_iload_n hx hb dX12_wants_24 rfl (lv_at hl 3 rfl) ?_
    refine lv_ishl hx hb dX12_wants_25 ?_
    refine lv_ior hx hb dX12_wants_26 ?_
    refine mt_lti hf (fun x7 ex7 hf => ?_)
    refine lv_istore_n (lv' := [(2, .int x7), (0, .ref (E.2.1 147)), (1, .int a1), (3, .int x2)]) hx hb dX12_wants_27 rfl hl (by decide) rfl (fun ls hl => ?_)
    refine mt_ltI hf (fun x8 ex8 hf => ?_)
    refine lv_iinc (v := x8) (lv' := [(3, .int x8), (2, .int x7), (0, .ref (E.2.1 147)), (1, .int a1)]) hx hb dX12_wants_28 hl (k := 3) rfl (by rw [ex8]; rfl) (by decide) rfl (fun ls hl => ?_)
    refine lv_goto (tgt := 4) hx hb dX12_wants_31 (by decide) ?_
    exact ih4 x7 x8 hf _ _ _ hH hS (lv_sub hl [2, 3, 1, 0] rfl)
set_option maxHeartbeats 4000000 in
set_option maxRecDepth 100000 in
theorem c_X12_latestWants (l : Launch) (E : mt_E)  (M : mt_M) (u : mt_U) (r : Int32) (hf : f_X12_latestWants M = some (r)) : Met l yX12_latestWants wsX12_latestWants ({ frames := 2, cells := 0, slots := 0, locals := 48 } : Room) (mt_P E [.ref (E.2.1 147)] M u) (mt_Qi E r M u) 0 0 (mt_A E) := by
  refine Met.ofW (cc := cX12_latestWants) (maxL := 3) (ret := (some .int)) (by decide) rfl ?_
  intro p e s mid args below meth c0 s₁ B hml hv
  obtain ⟨rfl, hI, hH⟩ := hv
  have hx := B.exec
  have hb := B.bytes
  have hr := B.returns
  have hts := atoms_spec (ws := wsX12_latestWants) B.pre
  have hown : s.vm.findClass RX12 = some mid.cls := findClass_of_methodNamed B.named
  have hlocks := B.notSynchronized
  have hS : va_S (mt_A E) s.heap s.heap [] := va_S.rf
  have hl := lv_entry ([.ref (E.2.1 147)]) (n := 3) (Nat.le_of_ble_eq_true rfl)
  rw [lg_entry_eq]
  generalize (lg_sl ([.ref (E.2.1 147)]) ++ List.replicate (3 - (lg_sl ([.ref (E.2.1 147)])).length) Slot.unset).toArray = ls at hl ⊢
  have hl : lv_has ls 3 [(0, .ref (E.2.1 147))] := hl
  unfold f_X12_latestWants at hf
  have kw0 := hts (.fieldLink RX12 59 "MilkTwiceModel" "things" "I") (List.mem_of_getElem? (i := 1) rfl)
  have hinX12 : ∀ w ∈ u_ws RX12 TX12 29, w ∈ wsX12_latestWants := fun w h => List.mem_cons_of_mem _ (List.mem_append_right _ h)
  refine lv_iconst (v := 0) hx hb dX12_latestWants_0 (by decide) ?_
  refine lv_istore_n (lv' := [(1, .int (0 : Int32)), (0, .ref (E.2.1 147))]) hx hb dX12_latestWants_1 rfl hl (by decide) rfl (fun ls hl => ?_)
  refine lv_iconst (v := 0) hx hb dX12_latestWants_2 (by decide) ?_
  refine lv_istore_n (lv' := [(2, .int (0 : Int32)), (1, .int (0 : Int32)), (0, .ref (E.2.1 147))]) hx hb dX12_latestWants_3 rfl hl (by decide) rfl (fun ls hl => ?_)
  refine mt_lpI2 hf (fun (x1 : Int32) (x2 : Int32) => ∀ (H : Heap) (locs : List Loc) (ls : Array Slot), mt_H E M u H → va_S (mt_A E) s.heap H locs → lv_has ls 3 [(0, .ref (E.2.1 147)), (1, .int x1), (2, .int x2)] → W p l e (headSpec wsX12_latestWants ({ frames := 2, cells := 0, slots := 0, locals := 48 } : Room)).room s mid (([.ref (E.2.1 147)] : List Value).toArray) below meth c0 H locs 0 0 (MQ below (mt_Qi E r M u) (([.ref (E.2.1 147)] : List Value).toArray) s 0 0 (mt_A E)) (F0 mid 4 ls [])) ?_ _ _ _ hH hS (lv_sub hl [2, 1, 0] rfl)
  intro k3 ih4 x1 x2 hf H locs ls hH hS hl
  refine lv_iload_n hx hb dX12_latestWants_4 rfl (lv_at hl 2 rfl) ?_
  refine lv_aload_n hx hb dX12_latestWants_5 rfl (lv_at hl 0 rfl) ?_
  refine mt_geti (C := RX12) (T := TX12) (N := 29) hx hb hts hinX12 hown hI hH mt_T147 rfl 8 (by decide) kw0 rfl rfl dX12_latestWants_6 ?_
  refine lv_icmp_ge (tgt := 29) hx hb dX12_latestWants_9 (by decide) (fun c5 => ?_) (fun c5 => ?_)
  · have hf := mt_ifT c5 hf
    refine lv_iload_n hx hb dX12_latestWants_29 rfl (lv_at hl 1 rfl) ?_
    have i1 := mt_so1 hf
    subst i1
    exact mt_iret hx hb hr hI hH hS hlocks dX12_latestWants_30
  · have hf := mt_ifF c5 hf
    refine lv_iload_n hx hb dX12_latestWants_12 rfl (lv_at hl 1 rfl) ?_
    refine lv_aload_n hx hb dX12_latestWants_13 rfl (lv_at hl 0 rfl) ?_
    refine lv_iconst (v := 0) hx hb dX12_latestWants_14 (by decide) ?_
    refine lv_iload_n hx hb dX12_latestWants_15 rfl (lv_at hl 2 rfl) ?_
    refine mt_b1I hf (fun r7 hg6 hf => ?_)
    refine mt_goi (mt_runV (i := 147) (As := [.int (0 : Int32), .int x2]) (rest := [.int x1]) ⟨hx, hb, hml, hown, hts⟩ hI hH (c_X12_wantedBy l E (0 : Int32) x2 M u _ hg6) (cwV 2 hts gX12_latestWants_X12_wantedBy rfl rfl rfl (by decide +kernel) ⟨Nat.le_of_ble_eq_true rfl, Nat.le_of_ble_eq_true rfl⟩) mt_T147 rfl rfl hl.1 rfl (Nat.le_of_ble_eq_true rfl) dX12_latestWants_16 ⟨Nat.zero_le _, Nat.zero_le _⟩) hS (fun H locs hH hS => ?_)
    refine lv_iload_n hx hb dX12_latestWants_19 rfl (lv_at hl 2 rfl) ?_
    refine lv_ishl hx hb dX12_latestWants_20 ?_
    refine lv_ior hx hb dX12_latestWants_21 ?_
    refine mt_lti hf (fun x8 ex8 hf => ?_)
    refine lv_istore_n (lv' := [(1, .int x8), (0, .ref (E.2.1 147)), (2, .int x2)]) hx hb dX12_latestWants_22 rfl hl (by decide) rfl (fun ls hl => ?_)
    refine mt_ltI hf (fun x9 ex9 hf => ?_)
    refine lv_iinc (v := x9) (lv' := [(2, .int x9), (1, .int x8), (0, .ref (E.2.1 147))]) hx hb dX12_latestWants_23 hl (k := 2) rfl (by rw [ex9]; rfl) (by decide) rfl (fun ls hl => ?_)
    refine lv_goto (tgt := 4) hx hb dX12_latestWants_26 (by decide) ?_
    exact ih4 x8 x9 hf _ _ _ hH hS (lv_sub hl [2, 1, 0] rfl)
set_option maxHeartbeats 4000000 in
set_option maxRecDepth 100000 in
theorem c_X12_wantsBy (l : Launch) (E : mt_E) (a1 : Int32) (M : mt_M) (u : mt_U) (r : Int32) (hf : f_X12_wantsBy a1 M = some (r)) : Met l yX12_wantsBy wsX12_wantsBy ({ frames := 2, cells := 0, slots := 0, locals := 48 } : Room) (mt_P E [.ref (E.2.1 147), .int a1] M u) (mt_Qi E r M u) 0 0 (mt_A E) := by
  refine Met.ofW (cc := cX12_wantsBy) (maxL := 4) (ret := (some .int)) (by decide) rfl ?_
  intro p e s mid args below meth c0 s₁ B hml hv
  obtain ⟨rfl, hI, hH⟩ := hv
  have hx := B.exec
  have hb := B.bytes
  have hr := B.returns
  have hts := atoms_spec (ws := wsX12_wantsBy) B.pre
  have hown : s.vm.findClass RX12 = some mid.cls := findClass_of_methodNamed B.named
  have hlocks := B.notSynchronized
  have hS : va_S (mt_A E) s.heap s.heap [] := va_S.rf
  have hl := lv_entry ([.ref (E.2.1 147), .int a1]) (n := 4) (Nat.le_of_ble_eq_true rfl)
  rw [lg_entry_eq]
  generalize (lg_sl ([.ref (E.2.1 147), .int a1]) ++ List.replicate (4 - (lg_sl ([.ref (E.2.1 147), .int a1])).length) Slot.unset).toArray = ls at hl ⊢
  have hl : lv_has ls 4 [(0, .ref (E.2.1 147)), (1, .int a1)] := hl
  unfold f_X12_wantsBy at hf
  have kw0 := hts (.fieldLink RX12 59 "MilkTwiceModel" "things" "I") (List.mem_of_getElem? (i := 1) rfl)
  have hinX12 : ∀ w ∈ u_ws RX12 TX12 29, w ∈ wsX12_wantsBy := fun w h => List.mem_cons_of_mem _ (List.mem_append_right _ h)
  refine lv_iconst (v := 0) hx hb dX12_wantsBy_0 (by decide) ?_
  refine lv_istore_n (lv' := [(2, .int (0 : Int32)), (0, .ref (E.2.1 147)), (1, .int a1)]) hx hb dX12_wantsBy_1 rfl hl (by decide) rfl (fun ls hl => ?_)
  refine lv_iconst (v := 0) hx hb dX12_wantsBy_2 (by decide) ?_
  refine lv_istore_n (lv' := [(3, .int (0 : Int32)), (2, .int (0 : Int32)), (0, .ref (E.2.1 147)), (1, .int a1)]) hx hb dX12_wantsBy_3 rfl hl (by decide) rfl (fun ls hl => ?_)
  refine mt_lpI2 hf (fun (x1 : Int32) (x2 : Int32) => ∀ (H : Heap) (locs : List Loc) (ls : Array Slot), mt_H E M u H → va_S (mt_A E) s.heap H locs → lv_has ls 4 [(0, .ref (E.2.1 147)), (1, .int a1), (2, .int x1), (3, .int x2)] → W p l e (headSpec wsX12_wantsBy ({ frames := 2, cells := 0, slots := 0, locals := 48 } : Room)).room s mid (([.ref (E.2.1 147), .int a1] : List Value).toArray) below meth c0 H locs 0 0 (MQ below (mt_Qi E r M u) (([.ref (E.2.1 147), .int a1] : List Value).toArray) s 0 0 (mt_A E)) (F0 mid 4 ls [])) ?_ _ _ _ hH hS (lv_sub hl [2, 3, 1, 0] rfl)
  intro k3 ih4 x1 x2 hf H locs ls hH hS hl
  refine lv_iload_n hx hb dX12_wantsBy_4 rfl (lv_at hl 3 rfl) ?_
  refine lv_aload_n hx hb dX12_wantsBy_5 rfl (lv_at hl 0 rfl) ?_
  refine mt_geti (C := RX12) (T := TX12) (N := 29) hx hb hts hinX12 hown hI hH mt_T147 rfl 8 (by decide) kw0 rfl rfl dX12_wantsBy_6 ?_
  refine lv_icmp_ge (tgt := 29) hx hb dX12_wantsBy_9 (by decide) (fun c5 => ?_) (fun c5 => ?_)
  · have hf := mt_ifT c5 hf
    refine lv_iload_n hx hb dX12_wantsBy_29 rfl (lv_at hl 2 rfl) ?_
    have i1 := mt_so1 hf
    subst i1
    exact mt_iret hx hb hr hI hH hS hlocks dX12_wantsBy_30
  · have hf := mt_ifF c5 hf
    refine lv_iload_n hx hb dX12_wantsBy_12 rfl (lv_at hl 2 rfl) ?_
    refine lv_aload_n hx hb dX12_wantsBy_13 rfl (lv_at hl 0 rfl) ?_
    refine lv_iload_n hx hb dX12_wantsBy_14 rfl (lv_at hl 1 rfl) ?_
    refine lv_iload_n hx hb dX12_wantsBy_15 rfl (lv_at hl 3 rfl) ?_
    refine mt_b1I hf (fun r7 hg6 hf => ?_)
    refine mt_goi (mt_runV (i := 147) (As := [.int a1, .int x2]) (rest := [.int x1]) ⟨hx, hb, hml, hown, hts⟩ hI hH (c_X12_wantedBy l E a1 x2 M u _ hg6) (cwV 2 hts gX12_wantsBy_X12_wantedBy rfl rfl rfl (by decide +kernel) ⟨Nat.le_of_ble_eq_true rfl, Nat.le_of_ble_eq_true rfl⟩) mt_T147 rfl rfl hl.1 rfl (Nat.le_of_ble_eq_true rfl) dX12_wantsBy_16 ⟨Nat.zero_le _, Nat.zero_le _⟩) hS (fun H locs hH hS => ?_)
    refine lv_iload_n hx hb dX12_wantsBy_19 rfl (lv_at hl 3 rfl) ?_
    refine lv_ishl hx hb dX12_wantsBy_20 ?_
    refine lv_ior hx hb dX12_wantsBy_21 ?_
    refine mt_lti hf (fun x8 ex8 hf => ?_)
    refine lv_istore_n (lv' := [(2, .int x8), (0, .ref (E.2.1 147)), (1, .int a1), (3, .int x2)]) hx hb dX12_wantsBy_22 rfl hl (by decide) rfl (fun ls hl => ?_)
    refine mt_ltI hf (fun x9 ex9 hf => ?_)
    refine lv_iinc (v := x9) (lv' := [(3, .int x9), (2, .int x8), (0, .ref (E.2.1 147)), (1, .int a1)]) hx hb dX12_wantsBy_23 hl (k := 3) rfl (by rw [ex9]; rfl) (by decide) rfl (fun ls hl => ?_)
    refine lv_goto (tgt := 4) hx hb dX12_wantsBy_26 (by decide) ?_
    exact ih4 x8 x9 hf _ _ _ hH hS (lv_sub hl [2, 3, 1, 0] rfl)
set_option maxHeartbeats 4000000 in
set_option maxRecDepth 100000 in
theorem c_X12_apart (l : Launch) (E : mt_E)  (M : mt_M) (u : mt_U) (r : Int32) (hf : f_X12_apart M = some (r)) : Met l yX12_apart wsX12_apart ({ frames := 1, cells := 0, slots := 0, locals := 23 } : Room) (mt_P E [.ref (E.2.1 147)] M u) (mt_Qi E r M u) 0 0 (mt_A E) := by
  refine Met.ofW (cc := cX12_apart) (maxL := 1) (ret := (some .int)) (by decide) rfl ?_
  intro p e s mid args below meth c0 s₁ B hml hv
  obtain ⟨rfl, hI, hH⟩ := hv
  have hx := B.exec
  have hb := B.bytes
  have hr := B.returns
  have hts := atoms_spec (ws := wsX12_apart) B.pre
  have hown : s.vm.findClass RX12 = some mid.cls := findClass_of_methodNamed B.named
  have hlocks := B.notSynchronized
  have hS : va_S (mt_A E) s.heap s.heap [] := va_S.rf
  have hl := lv_entry ([.ref (E.2.1 147)]) (n := 1) (Nat.le_of_ble_eq_true rfl)
  rw [lg_entry_eq]
  generalize (lg_sl ([.ref (E.2.1 147)]) ++ List.replicate (1 - (lg_sl ([.ref (E.2.1 147)])).length) Slot.unset).toArray = ls at hl ⊢
  have hl : lv_has ls 1 [(0, .ref (E.2.1 147))] := hl
  unfold f_X12_apart at hf
  refine lv_aload_n hx hb dX12_apart_0 rfl (lv_at hl 0 rfl) ?_
  refine lv_iconst (v := 0) hx hb dX12_apart_1 (by decide) ?_
  refine mt_b1I hf (fun r2 hg1 hf => ?_)
  refine mt_goi (mt_runV (i := 147) (As := [.int (0 : Int32)]) (rest := []) ⟨hx, hb, hml, hown, hts⟩ hI hH (c_X12_wants l E (0 : Int32) M u _ hg1) (cwV 1 hts gX12_apart_X12_wants rfl rfl rfl (by decide +kernel) ⟨Nat.le_of_ble_eq_true rfl, Nat.le_of_ble_eq_true rfl⟩) mt_T147 rfl rfl hl.1 rfl (Nat.le_of_ble_eq_true rfl) dX12_apart_2 ⟨Nat.zero_le _, Nat.zero_le _⟩) hS (fun H locs hH hS => ?_)
  refine lv_aload_n hx hb dX12_apart_5 rfl (lv_at hl 0 rfl) ?_
  refine lv_iconst (v := 1) hx hb dX12_apart_6 (by decide) ?_
  refine mt_b1I hf (fun r4 hg3 hf => ?_)
  refine mt_goi (mt_runV (i := 147) (As := [.int (1 : Int32)]) (rest := [.int r2]) ⟨hx, hb, hml, hown, hts⟩ hI hH (c_X12_wants l E (1 : Int32) M u _ hg3) (cwV 1 hts gX12_apart_X12_wants rfl rfl rfl (by decide +kernel) ⟨Nat.le_of_ble_eq_true rfl, Nat.le_of_ble_eq_true rfl⟩) mt_T147 rfl rfl hl.1 rfl (Nat.le_of_ble_eq_true rfl) dX12_apart_7 ⟨Nat.zero_le _, Nat.zero_le _⟩) hS (fun H locs hH hS => ?_)
  refine lv_ixor hx hb dX12_apart_10 ?_
  have i1 := mt_so1 hf
  subst i1
  exact mt_iret hx hb hr hI hH hS hlocks dX12_apart_11
set_option maxHeartbeats 4000000 in
set_option maxRecDepth 100000 in
theorem c_X12_joined (l : Launch) (E : mt_E) (a1 : Int32) (a2 : Int32) (M : mt_M) (u : mt_U) (r : Int32) (M' : mt_M) (hf : f_X12_joined a1 a2 M = some (r, M')) : Met l yX12_joined wsX12_joined ({ frames := 3, cells := 0, slots := 0, locals := 71 } : Room) (mt_P E [.ref (E.2.1 147), .int a1, .int a2] M u) (mt_Qi E r M' u) 0 0 (mt_A E) := by
  refine Met.ofW (cc := cX12_joined) (maxL := 4) (ret := (some .int)) (by decide) rfl ?_
  intro p e s mid args below meth c0 s₁ B hml hv
  obtain ⟨rfl, hI, hH⟩ := hv
  have hx := B.exec
  have hb := B.bytes
  have hr := B.returns
  have hts := atoms_spec (ws := wsX12_joined) B.pre
  have hown : s.vm.findClass RX12 = some mid.cls := findClass_of_methodNamed B.named
  have hlocks := B.notSynchronized
  have hS : va_S (mt_A E) s.heap s.heap [] := va_S.rf
  have hl := lv_entry ([.ref (E.2.1 147), .int a1, .int a2]) (n := 4) (Nat.le_of_ble_eq_true rfl)
  rw [lg_entry_eq]
  generalize (lg_sl ([.ref (E.2.1 147), .int a1, .int a2]) ++ List.replicate (4 - (lg_sl ([.ref (E.2.1 147), .int a1, .int a2])).length) Slot.unset).toArray = ls at hl ⊢
  have hl : lv_has ls 4 [(0, .ref (E.2.1 147)), (1, .int a1), (2, .int a2)] := hl
  unfold f_X12_joined at hf
  refine lv_iload_n hx hb dX12_joined_0 rfl (lv_at hl 1 rfl) ?_
  refine lv_iconst (v := 0) hx hb dX12_joined_1 (by decide) ?_
  refine lv_iconst (v := 3) hx hb dX12_joined_2 (by decide) ?_
  refine mt_b1I hf (fun r2 hg1 hf => ?_)
  refine mt_goi (mt_runS (As := [.int a1, .int (0 : Int32), .int (3 : Int32)]) (rest := []) ⟨hx, hb, hml, hown, hts⟩ hI hH (c_X12_isIn l E a1 (0 : Int32) (3 : Int32) M u _ hg1) (va_cwS 3 hts gX12_joined_X12_isIn rfl rfl rfl (by decide +kernel) ⟨Nat.le_of_ble_eq_true rfl, Nat.le_of_ble_eq_true rfl⟩) rfl hl.1 rfl (Nat.le_of_ble_eq_true rfl) dX12_joined_3 ⟨Nat.zero_le _, Nat.zero_le _⟩) hS (fun H locs hH hS => ?_)
  refine mt_jn0 hf (∀ (H : Heap) (locs : List Loc) (ls : Array Slot), mt_H E M u H → va_S (mt_A E) s.heap H locs → lv_has ls 4 [(0, .ref (E.2.1 147))] → W p l e (headSpec wsX12_joined ({ frames := 3, cells := 0, slots := 0, locals := 71 } : Room)).room s mid (([.ref (E.2.1 147), .int a1, .int a2] : List Value).toArray) below meth c0 H locs 0 0 (MQ below (mt_Qi E r M' u) (([.ref (E.2.1 147), .int a1, .int a2] : List Value).toArray) s 0 0 (mt_A E)) (F0 mid 18 ls [])) ?_ ?_
  · intro hf H locs ls hH hS hl
    refine lv_aload_n hx hb dX12_joined_18 rfl (lv_at hl 0 rfl) ?_
    refine lv_bipush (v := (-2)) hx hb dX12_joined_19 (by decide) ?_
    refine mt_b2I hf (fun r6 M7 hg5 hf => ?_)
    refine mt_goi (mt_runV (i := 147) (As := [.int (-2 : Int32)]) (rest := []) ⟨hx, hb, hml, hown, hts⟩ hI hH (c_X12_no l E (-2 : Int32) M u _ _ hg5) (cwV 1 hts gX12_joined_X12_no rfl rfl rfl (by decide +kernel) ⟨Nat.le_of_ble_eq_true rfl, Nat.le_of_ble_eq_true rfl⟩) mt_T147 rfl rfl hl.1 rfl (Nat.le_of_ble_eq_true rfl) dX12_joined_21 ⟨Nat.zero_le _, Nat.zero_le _⟩) hS (fun H locs hH hS => ?_)
    obtain ⟨i1, i2⟩ := mt_so2 hf
    subst i1
    subst i2
    exact mt_iret hx hb hr hI hH hS hlocks dX12_joined_24
  · intro j3 hj4 hf
    refine lv_if_eq (tgt := 18) hx hb dX12_joined_6 (by decide) (fun c8 => ?_) (fun c8 => ?_)
    · have hf := mt_ifT c8 hf
      exact hj4 hf _ _ _ hH hS (lv_sub hl [0] rfl)
    · have hf := mt_ifF c8 hf
      refine lv_iload_n hx hb dX12_joined_9 rfl (lv_at hl 2 rfl) ?_
      refine lv_iconst (v := 0) hx hb dX12_joined_10 (by decide) ?_
      refine lv_iconst (v := 2) hx hb dX12_joined_11 (by decide) ?_
      refine mt_b1I hf (fun r10 hg9 hf => ?_)
      refine mt_goi (mt_runS (As := [.int a2, .int (0 : Int32), .int (2 : Int32)]) (rest := []) ⟨hx, hb, hml, hown, hts⟩ hI hH (c_X12_isIn l E a2 (0 : Int32) (2 : Int32) M u _ hg9) (va_cwS 3 hts gX12_joined_X12_isIn rfl rfl rfl (by decide +kernel) ⟨Nat.le_of_ble_eq_true rfl, Nat.le_of_ble_eq_true rfl⟩) rfl hl.1 rfl (Nat.le_of_ble_eq_true rfl) dX12_joined_12 ⟨Nat.zero_le _, Nat.zero_le _⟩) hS (fun H locs hH hS => ?_)
      refine lv_if_ne (tgt := 25) hx hb dX12_joined_15 (by decide) (fun c11 => ?_) (fun c11 => ?_)
      · have hf := mt_ifF c11 hf
        refine lv_aload_n hx hb dX12_joined_25 rfl (lv_at hl 0 rfl) ?_
        refine lv_iload_n hx hb dX12_joined_26 rfl (lv_at hl 1 rfl) ?_
        refine mt_b1I hf (fun r13 hg12 hf => ?_)
        refine mt_goi (mt_runV (i := 147) (As := [.int a1]) (rest := []) ⟨hx, hb, hml, hown, hts⟩ hI hH (c_X12_wantsBy l E a1 M u _ hg12) (cwV 1 hts gX12_joined_X12_wantsBy rfl rfl rfl (by decide +kernel) ⟨Nat.le_of_ble_eq_true rfl, Nat.le_of_ble_eq_true rfl⟩) mt_T147 rfl rfl hl.1 rfl (Nat.le_of_ble_eq_true rfl) dX12_joined_27 ⟨Nat.zero_le _, Nat.zero_le _⟩) hS (fun H locs hH hS => ?_)
        refine lv_istore_n (lv' := [(3, .int r13), (0, .ref (E.2.1 147)), (1, .int a1), (2, .int a2)]) hx hb dX12_joined_30 rfl hl (by decide) rfl (fun ls hl => ?_)
        refine lv_iload_n hx hb dX12_joined_31 rfl (lv_at hl 3 rfl) ?_
        refine lv_if_ne (tgt := 39) hx hb dX12_joined_32 (by decide) (fun c14 => ?_) (fun c14 => ?_)
        · have hf := mt_ifF c14 hf
          refine lv_iload_n hx hb dX12_joined_39 rfl (lv_at hl 3 rfl) ?_
          refine lv_iconst (v := 1) hx hb dX12_joined_40 (by decide) ?_
          refine lv_icmp_ne (tgt := 55) hx hb dX12_joined_41 (by decide) (fun c15 => ?_) (fun c15 => ?_)
          · have hf := mt_ifF c15 hf
            refine lv_iload_n hx hb dX12_joined_55 rfl (lv_at hl 0 rfl) ?_
            refine lv_aload_n hx hb dX12_joined_56 rfl (lv_at hl 1 rfl) ?_
            refine mt_b1I hf (fun r17 hg16 hf => ?_)
            refine mt_goi (mt_runV (i := 147) (As := []) (rest := [.int r13]) ⟨hx, hb, hml, hown, hts⟩ hI hH (c_X12_latestWants l E M u _ hg16) (cwV 0 hts gX12_joined_X12_latestWants rfl rfl rfl (by decide +kernel) ⟨Nat.le_of_ble_eq_true rfl, Nat.le_of_ble_eq_true rfl⟩) mt_T147 rfl rfl hl.1 rfl (Nat.le_of_ble_eq_true rfl) dX12_joined_57 ⟨Nat.zero_le _, Nat.zero_le _⟩) hS (fun H locs hH hS => ?_)
            refine lv_iconst (v := (-1)) hx hb dX12_joined_60 (by decide) ?_
            refine lv_ixor hx hb dX12_joined_61 ?_
            refine lv_iand hx hb dX12_joined_62 ?_
            obtain ⟨i1, i2⟩ := mt_so2 hf
            subst i1
            subst i2
            exact mt_iret hx hb hr hI hH hS hlocks dX12_joined_63
          · have hf := mt_ifT c15 hf
            refine lv_aload_n hx hb dX12_joined_44 rfl (lv_at hl 1 rfl) ?_
            refine mt_b1I hf (fun r19 hg18 hf => ?_)
            refine mt_goi (mt_runV (i := 147) (As := []) (rest := []) ⟨hx, hb, hml, hown, hts⟩ hI hH (c_X12_latestWants l E M u _ hg18) (cwV 0 hts gX12_joined_X12_latestWants rfl rfl rfl (by decide +kernel) ⟨Nat.le_of_ble_eq_true rfl, Nat.le_of_ble_eq_true rfl⟩) mt_T147 rfl rfl hl.1 rfl (Nat.le_of_ble_eq_true rfl) dX12_joined_45 ⟨Nat.zero_le _, Nat.zero_le _⟩) hS (fun H locs hH hS => ?_)
            refine lv_iload_n hx hb dX12_joined_48 rfl (lv_at hl 0 rfl) ?_
            refine lv_iconst (v := (-1)) hx hb dX12_joined_49 (by decide) ?_
            refine lv_ixor hx hb dX12_joined_50 ?_
            refine lv_iand hx hb dX12_joined_51 ?_
            refine lv_goto (tgt := 63) hx hb dX12_joined_52 (by decide) ?_
            obtain ⟨i1, i2⟩ := mt_so2 hf
            subst i1
            subst i2
            exact mt_iret hx hb hr hI hH hS hlocks dX12_joined_63
        · have hf := mt_ifT c14 hf
          refine lv_iload_n hx hb dX12_joined_35 rfl (lv_at hl 0 rfl) ?_
          refine lv_goto (tgt := 63) hx hb dX12_joined_36 (by decide) ?_
          obtain ⟨i1, i2⟩ := mt_so2 hf
          subst i1
          subst i2
          exact mt_iret hx hb hr hI hH hS hlocks dX12_joined_63
      · have hf := mt_ifT c11 hf
        exact hj4 hf _ _ _ hH hS (lv_sub hl [0] rfl)
set_option maxHeartbeats 4000000 in
set_option maxRecDepth 100000 in
theorem c_X12_bits (l : Launch) (E : mt_E) (a0 : Int32) (M : mt_M) (u : mt_U) (r : Int32) (hf : f_X12_bits a0 = some (r)) : Met l yX12_bits wsX12_bits ({ frames := 0, cells := 0, slots := 0, locals := 0 } : Room) (mt_P E [.int a0] M u) (mt_Qi E r M u) 0 0 (mt_A E) := by
  refine Met.ofW (cc := cX12_bits) (maxL := 3) (ret := (some .int)) (by decide) rfl ?_
  intro p e s mid args below meth c0 s₁ B hml hv
  obtain ⟨rfl, hI, hH⟩ := hv
  have hx := B.exec
  have hb := B.bytes
  have hr := B.returns
  have hts := atoms_spec (ws := wsX12_bits) B.pre
  have hown : s.vm.findClass RX12 = some mid.cls := findClass_of_methodNamed B.named
  have hlocks := B.notSynchronized
  have hS : va_S (mt_A E) s.heap s.heap [] := va_S.rf
  have hl := lv_entry ([.int a0]) (n := 3) (Nat.le_of_ble_eq_true rfl)
  rw [lg_entry_eq]
  generalize (lg_sl ([.int a0]) ++ List.replicate (3 - (lg_sl ([.int a0])).length) Slot.unset).toArray = ls at hl ⊢
  have hl : lv_has ls 3 [(0, .int a0)] := hl
  unfold f_X12_bits at hf
  refine lv_iconst (v := 0) hx hb dX12_bits_0 (by decide) ?_
  refine lv_istore_n (lv' := [(1, .int (0 : Int32)), (0, .int a0)]) hx hb dX12_bits_1 rfl hl (by decide) rfl (fun ls hl => ?_)
  refine lv_iconst (v := 0) hx hb dX12_bits_2 (by decide) ?_
  refine lv_istore_n (lv' := [(2, .int (0 : Int32)), (1, .int (0 : Int32)), (0, .int a0)]) hx hb dX12_bits_3 rfl hl (by decide) rfl (fun ls hl => ?_)
  refine mt_lpI2 hf (fun (x1 : Int32) (x2 : Int32) => ∀ (H : Heap) (locs : List Loc) (ls : Array Slot), mt_H E M u H → va_S (mt_A E) s.heap H locs → lv_has ls 3 [(0, .int a0), (1, .int x1), (2, .int x2)] → W p l e (headSpec wsX12_bits ({ frames := 0, cells := 0, slots := 0, locals := 0 } : Room)).room s mid (([.int a0] : List Value).toArray) below meth c0 H locs 0 0 (MQ below (mt_Qi E r M u) (([.int a0] : List Value).toArray) s 0 0 (mt_A E)) (F0 mid 4 ls [])) ?_ _ _ _ hH hS (lv_sub hl [2, 1, 0] rfl)
  intro k3 ih4 x1 x2 hf H locs ls hH hS hl
  refine lv_iload_n hx hb dX12_bits_4 rfl (lv_at hl 2 rfl) ?_
  refine lv_bipush (v := 31) hx hb dX12_bits_5 (by decide) ?_
  refine lv_icmp_ge (tgt := 24) hx hb dX12_bits_7 (by decide) (fun c5 => ?_) (fun c5 => ?_)
  · have hf := mt_ifT c5 hf
    refine lv_iload_n hx hb dX12_bits_24 rfl (lv_at hl 1 rfl) ?_
    have i1 := mt_so1 hf
    subst i1
    exact mt_iret hx hb hr hI hH hS hlocks dX12_bits_25
  · have hf := mt_ifF c5 hf
    refine lv_iload_n hx hb dX12_bits_10 rfl (lv_at hl 1 rfl) ?_
    refine lv_iload_n hx hb dX12_bits_11 rfl (lv_at hl 0 rfl) ?_
    refine lv_iload_n hx hb dX12_bits_12 rfl (lv_at hl 2 rfl) ?_
    refine lv_ishr hx hb dX12_bits_13 ?_
    refine lv_iconst (v := 1) hx hb dX12_bits_14 (by decide) ?_
    refine lv_iand hx hb dX12_bits_15 ?_
    refine lv_iadd hx hb dX12_bits_16 ?_
    refine mt_lti hf (fun x6 ex6 hf => ?_)
    refine lv_istore_n (lv' := [(1, .int x6), (0, .int a0), (2, .int x2)]) hx hb dX12_bits_17 rfl hl (by decide) rfl (fun ls hl => ?_)
    refine mt_ltI hf (fun x7 ex7 hf => ?_)
    refine lv_iinc (v := x7) (lv' := [(2, .int x7), (1, .int x6), (0, .int a0)]) hx hb dX12_bits_18 hl (k := 2) rfl (by rw [ex7]; rfl) (by decide) rfl (fun ls hl => ?_)
    refine lv_goto (tgt := 4) hx hb dX12_bits_21 (by decide) ?_
    exact ih4 x6 x7 hf _ _ _ hH hS (lv_sub hl [2, 1, 0] rfl)
set_option maxHeartbeats 4000000 in
set_option maxRecDepth 100000 in
theorem c_X12_wrongBy (l : Launch) (E : mt_E) (a1 : Int32) (M : mt_M) (u : mt_U) (r : Int32) (hf : f_X12_wrongBy a1 M = some (r)) : Met l yX12_wrongBy wsX12_wrongBy ({ frames := 3, cells := 0, slots := 0, locals := 71 } : Room) (mt_P E [.ref (E.2.1 147), .int a1] M u) (mt_Qi E r M u) 0 0 (mt_A E) := by
  refine Met.ofW (cc := cX12_wrongBy) (maxL := 2) (ret := (some .int)) (by decide) rfl ?_
  intro p e s mid args below meth c0 s₁ B hml hv
  obtain ⟨rfl, hI, hH⟩ := hv
  have hx := B.exec
  have hb := B.bytes
  have hr := B.returns
  have hts := atoms_spec (ws := wsX12_wrongBy) B.pre
  have hown : s.vm.findClass RX12 = some mid.cls := findClass_of_methodNamed B.named
  have hlocks := B.notSynchronized
  have hS : va_S (mt_A E) s.heap s.heap [] := va_S.rf
  have hl := lv_entry ([.ref (E.2.1 147), .int a1]) (n := 2) (Nat.le_of_ble_eq_true rfl)
  rw [lg_entry_eq]
  generalize (lg_sl ([.ref (E.2.1 147), .int a1]) ++ List.replicate (2 - (lg_sl ([.ref (E.2.1 147), .int a1])).length) Slot.unset).toArray = ls at hl ⊢
  have hl : lv_has ls 2 [(0, .ref (E.2.1 147)), (1, .int a1)] := hl
  unfold f_X12_wrongBy at hf
  refine lv_aload_n hx hb dX12_wrongBy_0 rfl (lv_at hl 0 rfl) ?_
  refine mt_b1I hf (fun r2 hg1 hf => ?_)
  refine mt_goi (mt_runV (i := 147) (As := []) (rest := []) ⟨hx, hb, hml, hown, hts⟩ hI hH (c_X12_latestWants l E M u _ hg1) (cwV 0 hts gX12_wrongBy_X12_latestWants rfl rfl rfl (by decide +kernel) ⟨Nat.le_of_ble_eq_true rfl, Nat.le_of_ble_eq_true rfl⟩) mt_T147 rfl rfl hl.1 rfl (Nat.le_of_ble_eq_true rfl) dX12_wrongBy_1 ⟨Nat.zero_le _, Nat.zero_le _⟩) hS (fun H locs hH hS => ?_)
  refine lv_aload_n hx hb dX12_wrongBy_4 rfl (lv_at hl 0 rfl) ?_
  refine lv_iload_n hx hb dX12_wrongBy_5 rfl (lv_at hl 1 rfl) ?_
  refine mt_b1I hf (fun r4 hg3 hf => ?_)
  refine mt_goi (mt_runV (i := 147) (As := [.int a1]) (rest := [.int r2]) ⟨hx, hb, hml, hown, hts⟩ hI hH (c_X12_wantsBy l E a1 M u _ hg3) (cwV 1 hts gX12_wrongBy_X12_wantsBy rfl rfl rfl (by decide +kernel) ⟨Nat.le_of_ble_eq_true rfl, Nat.le_of_ble_eq_true rfl⟩) mt_T147 rfl rfl hl.1 rfl (Nat.le_of_ble_eq_true rfl) dX12_wrongBy_6 ⟨Nat.zero_le _, Nat.zero_le _⟩) hS (fun H locs hH hS => ?_)
  refine lv_ixor hx hb dX12_wrongBy_9 ?_
  refine mt_b1I hf (fun r6 hg5 hf => ?_)
  refine mt_goi (mt_runS (As := [.int (r2 ^^^ r4)]) (rest := []) ⟨hx, hb, hml, hown, hts⟩ hI hH (c_X12_bits l E (r2 ^^^ r4) M u _ hg5) (va_cwS 1 hts gX12_wrongBy_X12_bits rfl rfl rfl (by decide +kernel) ⟨Nat.le_of_ble_eq_true rfl, Nat.le_of_ble_eq_true rfl⟩) rfl hl.1 rfl (Nat.le_of_ble_eq_true rfl) dX12_wrongBy_10 ⟨Nat.zero_le _, Nat.zero_le _⟩) hS (fun H locs hH hS => ?_)
  have i1 := mt_so1 hf
  subst i1
  exact mt_iret hx hb hr hI hH hS hlocks dX12_wrongBy_13

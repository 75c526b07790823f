/-! THE WALKS, laid by program: each method returns what its pure function says, and leaves the memory so -/
set_option maxHeartbeats 4000000 in
set_option maxRecDepth 100000 in
theorem c_J6_bitCount (l : Launch) (E : mt_E) (a0 : Int32) (M : mt_M) (u : mt_U) (r : Int32) (hf : f_J6_bitCount a0 = some (r)) : Met l yJ6_bitCount_0f7a4 wsJ6_bitCount_0f7a4 ({ frames := 0, cells := 0, slots := 0, locals := 0 } : Room) (mt_P E [.int a0] M u) (mt_Qi E r M u) 0 0 (mt_A E) := by
  refine Met.ofW (cc := cJ6_bitCount_0f7a4) (maxL := 1) (ret := (some .int)) (by decide) rfl ?_
  intro p e s mid args below meth c0 s₁ B hml hv
  obtain ⟨rfl, hI, hH⟩ := hv
  have hx := B.exec
  have hb := B.bytes
  have hr := B.returns
  have hts := atoms_spec (ws := wsJ6_bitCount_0f7a4) B.pre
  have hown : s.vm.findClass RJ6 = some mid.cls := findClass_of_methodNamed B.named
  have hlocks := B.notSynchronized
  have hS : va_S (mt_A E) s.heap s.heap [] := va_S.rf
  have hl := lv_entry ([.int a0]) (n := 1) (Nat.le_of_ble_eq_true rfl)
  rw [lg_entry_eq]
  generalize (lg_sl ([.int a0]) ++ List.replicate (1 - (lg_sl ([.int a0])).length) Slot.unset).toArray = ls at hl ⊢
  have hl : lv_has ls 1 [(0, .int a0)] := hl
  unfold f_J6_bitCount at hf
  have kw0 := hts (.constant RJ6 265 (1431655765)) (List.mem_of_getElem? (i := 1) rfl)
  have kw1 := hts (.constant RJ6 266 (858993459)) (List.mem_of_getElem? (i := 2) rfl)
  have kw2 := hts (.constant RJ6 267 (252645135)) (List.mem_of_getElem? (i := 3) rfl)
  refine lv_iload_n hx hb dJ6_bitCount_0f7a4_0 rfl (lv_at hl 0 rfl) ?_
  refine lv_iload_n hx hb dJ6_bitCount_0f7a4_1 rfl (lv_at hl 0 rfl) ?_
  refine lv_iconst (v := 1) hx hb dJ6_bitCount_0f7a4_2 (by decide) ?_
  refine lv_iushr (v := ((a0.toUInt32 >>> ((1 : Int32).toUInt32 &&& Int32.toUInt32 31)).toInt32)) hx hb dJ6_bitCount_0f7a4_3 rfl ?_
  refine lv_ldcw hx hb hown kw0 dJ6_bitCount_0f7a4_4 ?_
  refine lv_iand hx hb dJ6_bitCount_0f7a4_7 ?_
  refine lv_isub hx hb dJ6_bitCount_0f7a4_8 ?_
  refine mt_lti hf (fun x1 ex1 hf => ?_)
  refine lv_istore_n (lv' := [(0, .int x1)]) hx hb dJ6_bitCount_0f7a4_9 rfl hl (by decide) rfl (fun ls hl => ?_)
  refine lv_iload_n hx hb dJ6_bitCount_0f7a4_10 rfl (lv_at hl 0 rfl) ?_
  refine lv_ldcw hx hb hown kw1 dJ6_bitCount_0f7a4_11 ?_
  refine lv_iand hx hb dJ6_bitCount_0f7a4_14 ?_
  refine lv_iload_n hx hb dJ6_bitCount_0f7a4_15 rfl (lv_at hl 0 rfl) ?_
  refine lv_iconst (v := 2) hx hb dJ6_bitCount_0f7a4_16 (by decide) ?_
  refine lv_iushr (v := ((x1.toUInt32 >>> ((2 : Int32).toUInt32 &&& Int32.toUInt32 31)).toInt32)) hx hb dJ6_bitCount_0f7a4_17 rfl ?_
  refine lv_ldcw hx hb hown kw1 dJ6_bitCount_0f7a4_18 ?_
  refine lv_iand hx hb dJ6_bitCount_0f7a4_21 ?_
  refine lv_iadd hx hb dJ6_bitCount_0f7a4_22 ?_
  refine mt_lti hf (fun x2 ex2 hf => ?_)
  refine lv_istore_n (lv' := [(0, .int x2)]) hx hb dJ6_bitCount_0f7a4_23 rfl hl (by decide) rfl (fun ls hl => ?_)
  refine lv_iload_n hx hb dJ6_bitCount_0f7a4_24 rfl (lv_at hl 0 rfl) ?_
  refine lv_iload_n hx hb dJ6_bitCount_0f7a4_25 rfl (lv_at hl 0 rfl) ?_
  refine lv_iconst (v := 4) hx hb dJ6_bitCount_0f7a4_26 (by decide) ?_
  refine lv_iushr (v := ((x2.toUInt32 >>> ((4 : Int32).toUInt32 &&& Int32.toUInt32 31)).toInt32)) hx hb dJ6_bitCount_0f7a4_27 rfl ?_
  refine lv_iadd hx hb dJ6_bitCount_0f7a4_28 ?_
  refine lv_ldcw hx hb hown kw2 dJ6_bitCount_0f7a4_29 ?_
  refine lv_iand hx hb dJ6_bitCount_0f7a4_32 ?_
  refine mt_lti hf (fun x3 ex3 hf => ?_)
  refine lv_istore_n (lv' := [(0, .int x3)]) hx hb dJ6_bitCount_0f7a4_33 rfl hl (by decide) rfl (fun ls hl => ?_)
  refine lv_iload_n hx hb dJ6_bitCount_0f7a4_34 rfl (lv_at hl 0 rfl) ?_
  refine lv_iload_n hx hb dJ6_bitCount_0f7a4_35 rfl (lv_at hl 0 rfl) ?_
  refine lv_bipush (v := 8) hx hb dJ6_bitCount_0f7a4_36 (by decide) ?_
  refine lv_iushr (v := ((x3.toUInt32 >>> ((8 : Int32).toUInt32 &&& Int32.toUInt32 31)).toInt32)) hx hb dJ6_bitCount_0f7a4_38 rfl ?_
  refine lv_iadd hx hb dJ6_bitCount_0f7a4_39 ?_
  refine mt_lti hf (fun x4 ex4 hf => ?_)
  refine lv_istore_n (lv' := [(0, .int x4)]) hx hb dJ6_bitCount_0f7a4_40 rfl hl (by decide) rfl (fun ls hl => ?_)
  refine lv_iload_n hx hb dJ6_bitCount_0f7a4_41 rfl (lv_at hl 0 rfl) ?_
  refine lv_iload_n hx hb dJ6_bitCount_0f7a4_42 rfl (lv_at hl 0 rfl) ?_
  refine lv_bipush (v := 16) hx hb dJ6_bitCount_0f7a4_43 (by decide) ?_
  refine lv_iushr (v := ((x4.toUInt32 >>> ((16 : Int32).toUInt32 &&& Int32.toUInt32 31)).toInt32)) hx hb dJ6_bitCount_0f7a4_45 rfl ?_
  refine lv_iadd hx hb dJ6_bitCount_0f7a4_46 ?_
  refine mt_lti hf (fun x5 ex5 hf => ?_)
  refine lv_istore_n (lv' := [(0, .int x5)]) hx hb dJ6_bitCount_0f7a4_47 rfl hl (by decide) rfl (fun ls hl => ?_)
  refine lv_iload_n hx hb dJ6_bitCount_0f7a4_48 rfl (lv_at hl 0 rfl) ?_
  refine lv_bipush (v := 63) hx hb dJ6_bitCount_0f7a4_49 (by decide) ?_
  refine lv_iand hx hb dJ6_bitCount_0f7a4_51 ?_
  have i1 := mt_so1 hf
  subst i1
  exact mt_iret hx hb hr hI hH hS hlocks dJ6_bitCount_0f7a4_52
set_option maxHeartbeats 4000000 in
set_option maxRecDepth 100000 in
theorem c_X4_harmOfRule (l : Launch) (E : mt_E) (h : Nat) (hh : mt_hou h) (a1 : Int32) (M : mt_M) (u : mt_U) (r : Int32) (hf : f_X4_harmOfRule h a1 M = some (r)) : Met l yX4_harmOfRule wsX4_harmOfRule ({ frames := 4, cells := 0, slots := 0, locals := 88 } : Room) (mt_P E [.ref (E.2.1 h), .int a1] M u) (mt_Qi E r M u) 0 0 (mt_A E) := by
  refine Met.ofW (cc := cX4_harmOfRule) (maxL := 2) (ret := (some .int)) (by decide) rfl ?_
  intro p e s mid args below meth c0 s₁ B hml hv
  obtain ⟨rfl, hI, hH⟩ := hv
  have hx := B.exec
  have hb := B.bytes
  have hr := B.returns
  have hts := atoms_spec (ws := wsX4_harmOfRule) B.pre
  have hown : s.vm.findClass RX4 = some mid.cls := findClass_of_methodNamed B.named
  have hlocks := B.notSynchronized
  have hS : va_S (mt_A E) s.heap s.heap [] := va_S.rf
  have hl := lv_entry ([.ref (E.2.1 h), .int a1]) (n := 2) (Nat.le_of_ble_eq_true rfl)
  rw [lg_entry_eq]
  generalize (lg_sl ([.ref (E.2.1 h), .int a1]) ++ List.replicate (2 - (lg_sl ([.ref (E.2.1 h), .int a1])).length) Slot.unset).toArray = ls at hl ⊢
  have hl : lv_has ls 2 [(0, .ref (E.2.1 h)), (1, .int a1)] := hl
  unfold f_X4_harmOfRule at hf
  refine lv_aload_n hx hb dX4_harmOfRule_0 rfl (lv_at hl 0 rfl) ?_
  refine lv_iload_n hx hb dX4_harmOfRule_1 rfl (lv_at hl 1 rfl) ?_
  refine mt_b1I hf (fun r2 hg1 hf => ?_)
  refine mt_goi (mt_runV (i := h) (As := [.int a1]) (rest := []) ⟨hx, hb, hml, hown, hts⟩ hI hH (c_X4_lostBy l E h hh a1 M u _ hg1) (cwV 1 hts gX4_harmOfRule_X4_lostBy rfl rfl rfl (by decide +kernel) ⟨Nat.le_of_ble_eq_true rfl, Nat.le_of_ble_eq_true rfl⟩) (mt_T_hou hh) rfl rfl hl.1 rfl (Nat.le_of_ble_eq_true rfl) dX4_harmOfRule_2 ⟨Nat.zero_le _, Nat.zero_le _⟩) hS (fun H locs hH hS => ?_)
  refine mt_b1I hf (fun r4 hg3 hf => ?_)
  refine mt_goi (mt_runS (As := [.int r2]) (rest := []) ⟨hx, hb, hml, hown, hts⟩ hI hH (c_J6_bitCount l E r2 M u _ hg3) (va_cwS 1 hts gX4_harmOfRule_J6_bitCount_0f7a4 rfl rfl rfl (by decide +kernel) ⟨Nat.le_of_ble_eq_true rfl, Nat.le_of_ble_eq_true rfl⟩) rfl hl.1 rfl (Nat.le_of_ble_eq_true rfl) dX4_harmOfRule_5 ⟨Nat.zero_le _, Nat.zero_le _⟩) hS (fun H locs hH hS => ?_)
  refine lv_aload_n hx hb dX4_harmOfRule_8 rfl (lv_at hl 0 rfl) ?_
  refine lv_iload_n hx hb dX4_harmOfRule_9 rfl (lv_at hl 1 rfl) ?_
  refine mt_b1I hf (fun r6 hg5 hf => ?_)
  refine mt_goi (mt_runV (i := h) (As := [.int a1]) (rest := [.int r4]) ⟨hx, hb, hml, hown, hts⟩ hI hH (c_X4_broughtBackBy l E h hh a1 M u _ hg5) (cwV 1 hts gX4_harmOfRule_X4_broughtBackBy rfl rfl rfl (by decide +kernel) ⟨Nat.le_of_ble_eq_true rfl, Nat.le_of_ble_eq_true rfl⟩) (mt_T_hou hh) rfl rfl hl.1 rfl (Nat.le_of_ble_eq_true rfl) dX4_harmOfRule_10 ⟨Nat.zero_le _, Nat.zero_le _⟩) hS (fun H locs hH hS => ?_)
  refine mt_b1I hf (fun r8 hg7 hf => ?_)
  refine mt_goi (mt_runS (As := [.int r6]) (rest := [.int r4]) ⟨hx, hb, hml, hown, hts⟩ hI hH (c_J6_bitCount l E r6 M u _ hg7) (va_cwS 1 hts gX4_harmOfRule_J6_bitCount_0f7a4 rfl rfl rfl (by decide +kernel) ⟨Nat.le_of_ble_eq_true rfl, Nat.le_of_ble_eq_true rfl⟩) rfl hl.1 rfl (Nat.le_of_ble_eq_true rfl) dX4_harmOfRule_13 ⟨Nat.zero_le _, Nat.zero_le _⟩) hS (fun H locs hH hS => ?_)
  refine lv_iadd hx hb dX4_harmOfRule_16 ?_
  have i1 := mt_so1 hf
  subst i1
  exact mt_iret hx hb hr hI hH hS hlocks dX4_harmOfRule_17
set_option maxHeartbeats 4000000 in
set_option maxRecDepth 100000 in
theorem c_X4_joinLists (l : Launch) (E : mt_E) (h : Nat) (hh : mt_hou h) (M : mt_M) (u : mt_U) (r : Int32) (M' : mt_M) (hf : f_X4_joinLists h M = some (r, M')) : Met l yX4_joinLists wsX4_joinLists ({ frames := 3, cells := 0, slots := 0, locals := 67 } : Room) (mt_P E [.ref (E.2.1 h)] M u) (mt_Qi E r M' u) 0 0 (mt_A E) := by
  refine Met.ofW (cc := cX4_joinLists) (maxL := 5) (ret := (some .int)) (by decide) rfl ?_
  intro p e s mid args below meth c0 s₁ B hml hv
  obtain ⟨rfl, hI, hH⟩ := hv
  have hx := B.exec
  have hb := B.bytes
  have hr := B.returns
  have hts := atoms_spec (ws := wsX4_joinLists) B.pre
  have hown : s.vm.findClass RX4 = some mid.cls := findClass_of_methodNamed B.named
  have hlocks := B.notSynchronized
  have hS : va_S (mt_A E) s.heap s.heap [] := va_S.rf
  have hl := lv_entry ([.ref (E.2.1 h)]) (n := 5) (Nat.le_of_ble_eq_true rfl)
  rw [lg_entry_eq]
  generalize (lg_sl ([.ref (E.2.1 h)]) ++ List.replicate (5 - (lg_sl ([.ref (E.2.1 h)])).length) Slot.unset).toArray = ls at hl ⊢
  have hl : lv_has ls 5 [(0, .ref (E.2.1 h))] := hl
  unfold f_X4_joinLists at hf
  have kw0 := hts (.fieldLink RX4 44 "MilkTwice$House" "rule" "I") (List.mem_of_getElem? (i := 1) rfl)
  have kw1 := hts (.fieldLink RX4 9 "MilkTwice$House" "wanted" "[I") (List.mem_of_getElem? (i := 2) rfl)
  have kw2 := hts (.fieldLink RX4 15 "MilkTwice$House" "clock" "[I") (List.mem_of_getElem? (i := 3) rfl)
  have kw3 := hts (.methodLink RX4 99 Lib.Math.max.name) (List.mem_of_getElem? (i := 4) rfl)
  have kw4 := hts (.static Lib.Math.max.name) (List.mem_of_getElem? (i := 5) rfl)
  have kw5 := hts (.initialized "java/lang/Math") (List.mem_of_getElem? (i := 6) rfl)
  have kw6 := hts (.code Lib.Math.max.name Lib.Math.max.code 2 (some .int)) (List.mem_of_getElem? (i := 7) rfl)
  have hinX4 : ∀ w ∈ u_ws RX4 TX4 6, w ∈ wsX4_joinLists := fun w h => List.mem_cons_of_mem _ (List.mem_append_left _ (List.mem_append_right _ h))
  refine lv_aload_n hx hb dX4_joinLists_0 rfl (lv_at hl 0 rfl) ?_
  refine lv_aload_n hx hb dX4_joinLists_1 rfl (lv_at hl 0 rfl) ?_
  refine mt_geti (C := RX4) (T := TX4) (N := 6) hx hb hts hinX4 hown hI hH (mt_T_hou hh) rfl 5 (by decide) kw0 rfl rfl dX4_joinLists_2 ?_
  refine mt_b1I hf (fun r2 hg1 hf => ?_)
  refine mt_goi (mt_runV (i := h) (As := [.int (M h 5)]) (rest := []) ⟨hx, hb, hml, hown, hts⟩ hI hH (c_X4_wantedAfter l E h hh (M h 5) M u _ hg1) (cwV 1 hts gX4_joinLists_X4_wantedAfter rfl rfl rfl (by decide +kernel) ⟨Nat.le_of_ble_eq_true rfl, Nat.le_of_ble_eq_true rfl⟩) (mt_T_hou hh) rfl rfl hl.1 rfl (Nat.le_of_ble_eq_true rfl) dX4_joinLists_5 ⟨Nat.zero_le _, Nat.zero_le _⟩) hS (fun H locs hH hS => ?_)
  refine lv_istore_n (lv' := [(1, .int r2), (0, .ref (E.2.1 h))]) hx hb dX4_joinLists_8 rfl hl (by decide) rfl (fun ls hl => ?_)
  refine lv_aload_n hx hb dX4_joinLists_9 rfl (lv_at hl 1 rfl) ?_
  refine mt_getr (C := RX4) (T := TX4) (N := 6) hx hb hts hinX4 hown hI hH (mt_T_hou hh) rfl 1 (by decide) kw1 rfl rfl dX4_joinLists_10 ?_
  refine lv_iconst (v := 0) hx hb dX4_joinLists_13 (by decide) ?_
  refine mt_iald hx hb hI hH (mt_T_houW hh) (mt_vl (by decide)) dX4_joinLists_14 ?_
  refine lv_iload_n hx hb dX4_joinLists_15 rfl (lv_at hl 0 rfl) ?_
  refine lv_ixor hx hb dX4_joinLists_16 ?_
  refine mt_b1I hf (fun r4 hg3 hf => ?_)
  refine mt_goi (mt_runS (As := [.int ((M (h + 1) (0 : Int32).toNatClampNeg) ^^^ r2)]) (rest := []) ⟨hx, hb, hml, hown, hts⟩ hI hH (c_J6_bitCount l E ((M (h + 1) (0 : Int32).toNatClampNeg) ^^^ r2) M u _ hg3) (va_cwS 1 hts gX4_joinLists_J6_bitCount_0f7a4 rfl rfl rfl (by decide +kernel) ⟨Nat.le_of_ble_eq_true rfl, Nat.le_of_ble_eq_true rfl⟩) rfl hl.1 rfl (Nat.le_of_ble_eq_true rfl) dX4_joinLists_17 ⟨Nat.zero_le _, Nat.zero_le _⟩) hS (fun H locs hH hS => ?_)
  refine lv_aload_n hx hb dX4_joinLists_20 rfl (lv_at hl 1 rfl) ?_
  refine mt_getr (C := RX4) (T := TX4) (N := 6) hx hb hts hinX4 hown hI hH (mt_T_hou hh) rfl 1 (by decide) kw1 rfl rfl dX4_joinLists_21 ?_
  refine lv_iconst (v := 1) hx hb dX4_joinLists_24 (by decide) ?_
  refine mt_iald hx hb hI hH (mt_T_houW hh) (mt_vl (by decide)) dX4_joinLists_25 ?_
  refine lv_iload_n hx hb dX4_joinLists_26 rfl (lv_at hl 0 rfl) ?_
  refine lv_ixor hx hb dX4_joinLists_27 ?_
  refine mt_b1I hf (fun r6 hg5 hf => ?_)
  refine mt_goi (mt_runS (As := [.int ((M (h + 1) (1 : Int32).toNatClampNeg) ^^^ r2)]) (rest := [.int r4]) ⟨hx, hb, hml, hown, hts⟩ hI hH (c_J6_bitCount l E ((M (h + 1) (1 : Int32).toNatClampNeg) ^^^ r2) M u _ hg5) (va_cwS 1 hts gX4_joinLists_J6_bitCount_0f7a4 rfl rfl rfl (by decide +kernel) ⟨Nat.le_of_ble_eq_true rfl, Nat.le_of_ble_eq_true rfl⟩) rfl hl.1 rfl (Nat.le_of_ble_eq_true rfl) dX4_joinLists_28 ⟨Nat.zero_le _, Nat.zero_le _⟩) hS (fun H locs hH hS => ?_)
  refine lv_iadd hx hb dX4_joinLists_31 ?_
  refine mt_lti hf (fun x7 ex7 hf => ?_)
  refine lv_istore_n (lv' := [(2, .int x7), (1, .int r2), (0, .ref (E.2.1 h))]) hx hb dX4_joinLists_32 rfl hl (by decide) rfl (fun ls hl => ?_)
  refine lv_aload_n hx hb dX4_joinLists_33 rfl (lv_at hl 2 rfl) ?_
  refine mt_getr (C := RX4) (T := TX4) (N := 6) hx hb hts hinX4 hown hI hH (mt_T_hou hh) rfl 1 (by decide) kw1 rfl rfl dX4_joinLists_34 ?_
  refine lv_iconst (v := 0) hx hb dX4_joinLists_37 (by decide) ?_
  refine lv_iload_n hx hb dX4_joinLists_38 rfl (lv_at hl 1 rfl) ?_
  refine mt_iast hx hb hI hH hS (mt_T_houW hh) (mt_vl (by decide)) dX4_joinLists_39 (fun H locs hH hS => ?_)
  refine mt_ltI hf (fun M8 eM8 hf => ?_)
  rw [← eM8] at hH
  refine lv_aload_n hx hb dX4_joinLists_40 rfl (lv_at hl 2 rfl) ?_
  refine mt_getr (C := RX4) (T := TX4) (N := 6) hx hb hts hinX4 hown hI hH (mt_T_hou hh) rfl 1 (by decide) kw1 rfl rfl dX4_joinLists_41 ?_
  refine lv_iconst (v := 1) hx hb dX4_joinLists_44 (by decide) ?_
  refine lv_iload_n hx hb dX4_joinLists_45 rfl (lv_at hl 1 rfl) ?_
  refine mt_iast hx hb hI hH hS (mt_T_houW hh) (mt_vl (by decide)) dX4_joinLists_46 (fun H locs hH hS => ?_)
  refine mt_ltI hf (fun M9 eM9 hf => ?_)
  rw [← eM9] at hH
  refine lv_iconst (v := 0) hx hb dX4_joinLists_47 (by decide) ?_
  refine lv_istore_n (lv' := [(3, .int (0 : Int32)), (2, .int x7), (1, .int r2), (0, .ref (E.2.1 h))]) hx hb dX4_joinLists_48 rfl hl (by decide) rfl (fun ls hl => ?_)
  refine mt_lpI2 hf (fun (x10 : Int32) (M11 : mt_M) => ∀ (H : Heap) (locs : List Loc) (ls : Array Slot), mt_H E M11 u H → va_S (mt_A E) s.heap H locs → lv_has ls 5 [(0, .ref (E.2.1 h)), (2, .int x7), (3, .int x10)] → W p l e (headSpec wsX4_joinLists ({ frames := 3, cells := 0, slots := 0, locals := 67 } : Room)).room s mid (([.ref (E.2.1 h)] : List Value).toArray) below meth c0 H locs 0 0 (MQ below (mt_Qi E r M' u) (([.ref (E.2.1 h)] : List Value).toArray) s 0 0 (mt_A E)) (F0 mid 49 ls [])) ?_ _ _ _ hH hS (lv_sub hl [3, 1, 0] rfl)
  intro k12 ih13 x10 M11 hf H locs ls hH hS hl
  refine lv_iload_n hx hb dX4_joinLists_49 rfl (lv_at hl 2 rfl) ?_
  refine lv_bipush (v := 7) hx hb dX4_joinLists_50 (by decide) ?_
  refine lv_icmp_ge (tgt := 100) hx hb dX4_joinLists_52 (by decide) (fun c14 => ?_) (fun c14 => ?_)
  · have hf := mt_ifT c14 hf
    refine lv_iload_n hx hb dX4_joinLists_100 rfl (lv_at hl 1 rfl) ?_
    obtain ⟨i1, i2⟩ := mt_so2 hf
    subst i1
    subst i2
    exact mt_iret hx hb hr hI hH hS hlocks dX4_joinLists_101
  · have hf := mt_ifF c14 hf
    refine lv_aload_n hx hb dX4_joinLists_55 rfl (lv_at hl 0 rfl) ?_
    refine mt_getr (C := RX4) (T := TX4) (N := 6) hx hb hts hinX4 hown hI hH (mt_T_hou hh) rfl 2 (by decide) kw2 rfl rfl dX4_joinLists_56 ?_
    refine lv_iload_n hx hb dX4_joinLists_59 rfl (lv_at hl 2 rfl) ?_
    refine mt_ciI hf (fun q15 hf => ?_)
    refine mt_iald hx hb hI hH (mt_T_houC hh) q15 dX4_joinLists_60 ?_
    refine lv_aload_n hx hb dX4_joinLists_61 rfl (lv_at hl 0 rfl) ?_
    refine mt_getr (C := RX4) (T := TX4) (N := 6) hx hb hts hinX4 hown hI hH (mt_T_hou hh) rfl 2 (by decide) kw2 rfl rfl dX4_joinLists_62 ?_
    refine lv_bipush (v := 7) hx hb dX4_joinLists_65 (by decide) ?_
    refine lv_iload_n hx hb dX4_joinLists_67 rfl (lv_at hl 2 rfl) ?_
    refine lv_iadd hx hb dX4_joinLists_68 ?_
    refine mt_ciI hf (fun q16 hf => ?_)
    refine mt_iald hx hb hI hH (mt_T_houC hh) q16 dX4_joinLists_69 ?_
    refine va_mmax hx hb (hml.trans hl.1.symm) hown kw3 kw4 kw5 kw6 (Nat.le_of_ble_eq_true rfl) (Nat.le_of_ble_eq_true rfl) (Nat.zero_le _) (Nat.zero_le _) dX4_joinLists_70 ?_
    refine mt_lti hf (fun x17 ex17 hf => ?_)
    refine lv_istore (lv' := [(4, .int x17), (0, .ref (E.2.1 h)), (2, .int x7), (3, .int x10)]) hx hb dX4_joinLists_73 hl (by decide) rfl (fun ls hl => ?_)
    refine lv_aload_n hx hb dX4_joinLists_75 rfl (lv_at hl 1 rfl) ?_
    refine mt_getr (C := RX4) (T := TX4) (N := 6) hx hb hts hinX4 hown hI hH (mt_T_hou hh) rfl 2 (by decide) kw2 rfl rfl dX4_joinLists_76 ?_
    refine lv_iload_n hx hb dX4_joinLists_79 rfl (lv_at hl 3 rfl) ?_
    refine lv_iload hx hb dX4_joinLists_80 (lv_at hl 0 rfl) ?_
    refine mt_ciI hf (fun q19 hf => ?_)
    refine mt_iast hx hb hI hH hS (mt_T_houC hh) q19 dX4_joinLists_82 (fun H locs hH hS => ?_)
    refine mt_ltI hf (fun M18 eM18 hf => ?_)
    rw [← eM18] at hH
    refine lv_aload_n hx hb dX4_joinLists_83 rfl (lv_at hl 1 rfl) ?_
    refine mt_getr (C := RX4) (T := TX4) (N := 6) hx hb hts hinX4 hown hI hH (mt_T_hou hh) rfl 2 (by decide) kw2 rfl rfl dX4_joinLists_84 ?_
    refine lv_bipush (v := 7) hx hb dX4_joinLists_87 (by decide) ?_
    refine lv_iload_n hx hb dX4_joinLists_89 rfl (lv_at hl 3 rfl) ?_
    refine lv_iadd hx hb dX4_joinLists_90 ?_
    refine lv_iload hx hb dX4_joinLists_91 (lv_at hl 0 rfl) ?_
    refine mt_ciI hf (fun q21 hf => ?_)
    refine mt_iast hx hb hI hH hS (mt_T_houC hh) q21 dX4_joinLists_93 (fun H locs hH hS => ?_)
    refine mt_ltI hf (fun M20 eM20 hf => ?_)
    rw [← eM20] at hH
    refine mt_ltI hf (fun x22 ex22 hf => ?_)
    refine lv_iinc (v := x22) (lv' := [(3, .int x22), (4, .int x17), (0, .ref (E.2.1 h)), (2, .int x7)]) hx hb dX4_joinLists_94 hl (k := 3) rfl (by rw [ex22]; rfl) (by decide) rfl (fun ls hl => ?_)
    refine lv_goto (tgt := 49) hx hb dX4_joinLists_97 (by decide) ?_
    exact ih13 x22 M20 hf _ _ _ hH hS (lv_sub hl [2, 3, 0] rfl)
set_option maxHeartbeats 4000000 in
set_option maxRecDepth 100000 in
theorem c_X4_latestLine (l : Launch) (E : mt_E) (h : Nat) (hh : mt_hou h) (M : mt_M) (u : mt_U) (r : Int32) (hf : f_X4_latestLine h M = some (r)) : Met l yX4_latestLine wsX4_latestLine ({ frames := 3, cells := 0, slots := 0, locals := 65 } : Room) (mt_P E [.ref (E.2.1 h)] M u) (mt_Qi E r M u) 0 0 (mt_A E) := by
  refine Met.ofW (cc := cX4_latestLine) (maxL := 5) (ret := (some .int)) (by decide) rfl ?_
  intro p e s mid args below meth c0 s₁ B hml hv
  obtain ⟨rfl, hI, hH⟩ := hv
  have hx := B.exec
  have hb := B.bytes
  have hr := B.returns
  have hts := atoms_spec (ws := wsX4_latestLine) B.pre
  have hown : s.vm.findClass RX4 = some mid.cls := findClass_of_methodNamed B.named
  have hlocks := B.notSynchronized
  have hS : va_S (mt_A E) s.heap s.heap [] := va_S.rf
  have hl := lv_entry ([.ref (E.2.1 h)]) (n := 5) (Nat.le_of_ble_eq_true rfl)
  rw [lg_entry_eq]
  generalize (lg_sl ([.ref (E.2.1 h)]) ++ List.replicate (5 - (lg_sl ([.ref (E.2.1 h)])).length) Slot.unset).toArray = ls at hl ⊢
  have hl : lv_has ls 5 [(0, .ref (E.2.1 h))] := hl
  unfold f_X4_latestLine at hf
  have kw0 := hts (.fieldLink RX4 23 "MilkTwice$House" "cupboard" "LMilkTwice$Cupboard;") (List.mem_of_getElem? (i := 1) rfl)
  have hinX4 : ∀ w ∈ u_ws RX4 TX4 6, w ∈ wsX4_latestLine := fun w h => List.mem_cons_of_mem _ (List.mem_append_left _ (List.mem_append_right _ h))
  have hinX0 : ∀ w ∈ u_ws RX0 TX0 12, w ∈ wsX4_latestLine := fun w h => List.mem_cons_of_mem _ (List.mem_append_right _ h)
  refine lv_iconst (v := 0) hx hb dX4_latestLine_0 (by decide) ?_
  refine lv_istore_n (lv' := [(1, .int (0 : Int32)), (0, .ref (E.2.1 h))]) hx hb dX4_latestLine_1 rfl hl (by decide) rfl (fun ls hl => ?_)
  refine lv_bipush (v := (-9)) hx hb dX4_latestLine_2 (by decide) ?_
  refine lv_istore_n (lv' := [(2, .int (-9 : Int32)), (1, .int (0 : Int32)), (0, .ref (E.2.1 h))]) hx hb dX4_latestLine_4 rfl hl (by decide) rfl (fun ls hl => ?_)
  refine lv_iconst (v := 0) hx hb dX4_latestLine_5 (by decide) ?_
  refine lv_istore_n (lv' := [(3, .int (0 : Int32)), (2, .int (-9 : Int32)), (1, .int (0 : Int32)), (0, .ref (E.2.1 h))]) hx hb dX4_latestLine_6 rfl hl (by decide) rfl (fun ls hl => ?_)
  refine mt_lpI3 hf (fun (x1 : Int32) (x2 : Int32) (x3 : Int32) => ∀ (H : Heap) (locs : List Loc) (ls : Array Slot), mt_H E M u H → va_S (mt_A E) s.heap H locs → lv_has ls 5 [(0, .ref (E.2.1 h)), (1, .int x1), (2, .int x2), (3, .int x3)] → W p l e (headSpec wsX4_latestLine ({ frames := 3, cells := 0, slots := 0, locals := 65 } : Room)).room s mid (([.ref (E.2.1 h)] : List Value).toArray) below meth c0 H locs 0 0 (MQ below (mt_Qi E r M u) (([.ref (E.2.1 h)] : List Value).toArray) s 0 0 (mt_A E)) (F0 mid 7 ls [])) ?_ _ _ _ hH hS (lv_sub hl [3, 2, 1, 0] rfl)
  intro k4 ih5 x1 x2 x3 hf H locs ls hH hS hl
  refine lv_iload_n hx hb dX4_latestLine_7 rfl (lv_at hl 3 rfl) ?_
  refine lv_aload_n hx hb dX4_latestLine_8 rfl (lv_at hl 0 rfl) ?_
  refine mt_getr (C := RX4) (T := TX4) (N := 6) hx hb hts hinX4 hown hI hH (mt_T_hou hh) rfl 0 (by decide) kw0 rfl rfl dX4_latestLine_9 ?_
  refine mt_getiN (C := RX0) (T := TX0) (N := 12) hx hb hts hinX0 hown hI hH (mt_T_cup (mt_hou_cup hh)) rfl 8 (by decide) (List.mem_of_getElem? (i := 0) rfl) rfl rfl dX4_latestLine_12 ?_
  refine lv_icmp_ge (tgt := 66) hx hb dX4_latestLine_15 (by decide) (fun c6 => ?_) (fun c6 => ?_)
  · have hf := mt_ifT c6 hf
    refine lv_iload_n hx hb dX4_latestLine_66 rfl (lv_at hl 2 rfl) ?_
    have i1 := mt_so1 hf
    subst i1
    exact mt_iret hx hb hr hI hH hS hlocks dX4_latestLine_67
  · have hf := mt_ifF c6 hf
    refine lv_iconst (v := 0) hx hb dX4_latestLine_18 (by decide) ?_
    refine lv_istore (lv' := [(4, .int (0 : Int32)), (0, .ref (E.2.1 h)), (1, .int x1), (2, .int x2), (3, .int x3)]) hx hb dX4_latestLine_19 hl (by decide) rfl (fun ls hl => ?_)
    refine mt_lpI3 hf (fun (x7 : Int32) (x8 : Int32) (x9 : Int32) => ∀ (H : Heap) (locs : List Loc) (ls : Array Slot), mt_H E M u H → va_S (mt_A E) s.heap H locs → lv_has ls 5 [(0, .ref (E.2.1 h)), (1, .int x7), (2, .int x8), (3, .int x3), (4, .int x9)] → W p l e (headSpec wsX4_latestLine ({ frames := 3, cells := 0, slots := 0, locals := 65 } : Room)).room s mid (([.ref (E.2.1 h)] : List Value).toArray) below meth c0 H locs 0 0 (MQ below (mt_Qi E r M u) (([.ref (E.2.1 h)] : List Value).toArray) s 0 0 (mt_A E)) (F0 mid 21 ls [])) ?_ _ _ _ hH hS (lv_sub hl [1, 2, 3, 4, 0] rfl)
    intro k10 ih11 x7 x8 x9 hf H locs ls hH hS hl
    refine lv_iload hx hb dX4_latestLine_21 (lv_at hl 4 rfl) ?_
    refine lv_iconst (v := 2) hx hb dX4_latestLine_23 (by decide) ?_
    refine lv_icmp_ge (tgt := 60) hx hb dX4_latestLine_24 (by decide) (fun c12 => ?_) (fun c12 => ?_)
    · have hf := mt_ifT c12 hf
      refine mt_ltI hf (fun x13 ex13 hf => ?_)
      refine lv_iinc (v := x13) (lv' := [(3, .int x13), (0, .ref (E.2.1 h)), (1, .int x7), (2, .int x8), (4, .int x9)]) hx hb dX4_latestLine_60 hl (k := 3) rfl (by rw [ex13]; rfl) (by decide) rfl (fun ls hl => ?_)
      refine lv_goto (tgt := 7) hx hb dX4_latestLine_63 (by decide) ?_
      exact ih5 x7 x8 x13 hf _ _ _ hH hS (lv_sub hl [1, 2, 3, 0] rfl)
    · have hf := mt_ifF c12 hf
      refine lv_aload_n hx hb dX4_latestLine_27 rfl (lv_at hl 0 rfl) ?_
      refine lv_iload hx hb dX4_latestLine_28 (lv_at hl 4 rfl) ?_
      refine lv_iload_n hx hb dX4_latestLine_30 rfl (lv_at hl 3 rfl) ?_
      refine mt_b1I hf (fun r15 hg14 hf => ?_)
      refine mt_goi (mt_runV (i := h) (As := [.int x9, .int x3]) (rest := []) ⟨hx, hb, hml, hown, hts⟩ hI hH (c_X4_clockOf l E h hh x9 x3 M u _ hg14) (cwV 2 hts gX4_latestLine_X4_clockOf rfl rfl rfl (by decide +kernel) ⟨Nat.le_of_ble_eq_true rfl, Nat.le_of_ble_eq_true rfl⟩) (mt_T_hou hh) rfl rfl hl.1 rfl (Nat.le_of_ble_eq_true rfl) dX4_latestLine_31 ⟨Nat.zero_le _, Nat.zero_le _⟩) hS (fun H locs hH hS => ?_)
      refine lv_iload_n hx hb dX4_latestLine_34 rfl (lv_at hl 1 rfl) ?_
      refine mt_jn2 hf (fun (x16 : Int32) (x17 : Int32) => ∀ (H : Heap) (locs : List Loc) (ls : Array Slot), mt_H E M u H → va_S (mt_A E) s.heap H locs → lv_has ls 5 [(0, .ref (E.2.1 h)), (1, .int x16), (2, .int x17), (3, .int x3), (4, .int x9)] → W p l e (headSpec wsX4_latestLine ({ frames := 3, cells := 0, slots := 0, locals := 65 } : Room)).room s mid (([.ref (E.2.1 h)] : List Value).toArray) below meth c0 H locs 0 0 (MQ below (mt_Qi E r M u) (([.ref (E.2.1 h)] : List Value).toArray) s 0 0 (mt_A E)) (F0 mid 54 ls [])) ?_ ?_
      · intro x16 x17 hf H locs ls hH hS hl
        refine mt_ltI hf (fun x20 ex20 hf => ?_)
        refine lv_iinc (v := x20) (lv' := [(4, .int x20), (0, .ref (E.2.1 h)), (1, .int x16), (2, .int x17), (3, .int x3)]) hx hb dX4_latestLine_54 hl (k := 4) rfl (by rw [ex20]; rfl) (by decide) rfl (fun ls hl => ?_)
        refine lv_goto (tgt := 21) hx hb dX4_latestLine_57 (by decide) ?_
        exact ih11 x16 x17 x20 hf _ _ _ hH hS (lv_sub hl [1, 2, 3, 4, 0] rfl)
      · intro j18 hj19 hf
        refine lv_icmp_le (tgt := 54) hx hb dX4_latestLine_35 (by decide) (fun c21 => ?_) (fun c21 => ?_)
        · have hf := mt_ifT c21 hf
          exact hj19 x7 x8 hf _ _ _ hH hS (lv_sub hl [0, 1, 2, 3, 4] rfl)
        · have hf := mt_ifF c21 hf
          refine lv_aload_n hx hb dX4_latestLine_38 rfl (lv_at hl 0 rfl) ?_
          refine lv_iload hx hb dX4_latestLine_39 (lv_at hl 4 rfl) ?_
          refine lv_iload_n hx hb dX4_latestLine_41 rfl (lv_at hl 3 rfl) ?_
          refine mt_b1I hf (fun r23 hg22 hf => ?_)
          refine mt_goi (mt_runV (i := h) (As := [.int x9, .int x3]) (rest := []) ⟨hx, hb, hml, hown, hts⟩ hI hH (c_X4_clockOf l E h hh x9 x3 M u _ hg22) (cwV 2 hts gX4_latestLine_X4_clockOf rfl rfl rfl (by decide +kernel) ⟨Nat.le_of_ble_eq_true rfl, Nat.le_of_ble_eq_true rfl⟩) (mt_T_hou hh) rfl rfl hl.1 rfl (Nat.le_of_ble_eq_true rfl) dX4_latestLine_42 ⟨Nat.zero_le _, Nat.zero_le _⟩) hS (fun H locs hH hS => ?_)
          refine lv_istore_n (lv' := [(1, .int r23), (0, .ref (E.2.1 h)), (2, .int x8), (3, .int x3), (4, .int x9)]) hx hb dX4_latestLine_45 rfl hl (by decide) rfl (fun ls hl => ?_)
          refine lv_bipush (v := 10) hx hb dX4_latestLine_46 (by decide) ?_
          refine lv_iload_n hx hb dX4_latestLine_48 rfl (lv_at hl 3 rfl) ?_
          refine lv_imul hx hb dX4_latestLine_49 ?_
          refine lv_iload hx hb dX4_latestLine_50 (lv_at hl 4 rfl) ?_
          refine lv_iadd hx hb dX4_latestLine_52 ?_
          refine mt_lti hf (fun x24 ex24 hf => ?_)
          refine lv_istore_n (lv' := [(2, .int x24), (1, .int r23), (0, .ref (E.2.1 h)), (3, .int x3), (4, .int x9)]) hx hb dX4_latestLine_53 rfl hl (by decide) rfl (fun ls hl => ?_)
          exact hj19 r23 x24 hf _ _ _ hH hS (lv_sub hl [2, 1, 0, 3, 4] rfl)
set_option maxHeartbeats 4000000 in
set_option maxRecDepth 100000 in
theorem c_X3_keep (l : Launch) (E : mt_E) (o1 : Nat) (hh1 : mt_hou o1) (M : mt_M) (u : mt_U) (M' : mt_M) (hf : f_X3_keep o1 M = some (M')) : Met l yX3_keep wsX3_keep ({ frames := 3, cells := 0, slots := 0, locals := 68 } : Room) (mt_P E [.ref (E.2.1 43), .ref (E.2.1 o1)] M u) (mt_Qv E M' u) 0 0 (mt_A E) := by
  refine Met.ofW (cc := cX3_keep) (maxL := 2) (ret := none) (by decide) rfl ?_
  intro p e s mid args below meth c0 s₁ B hml hv
  obtain ⟨rfl, hI, hH⟩ := hv
  have hx := B.exec
  have hb := B.bytes
  have hr := B.returns
  have hts := atoms_spec (ws := wsX3_keep) B.pre
  have hown : s.vm.findClass RX3 = some mid.cls := findClass_of_methodNamed B.named
  have hlocks := B.notSynchronized
  have hS : va_S (mt_A E) s.heap s.heap [] := va_S.rf
  have hl := lv_entry ([.ref (E.2.1 43), .ref (E.2.1 o1)]) (n := 2) (Nat.le_of_ble_eq_true rfl)
  rw [lg_entry_eq]
  generalize (lg_sl ([.ref (E.2.1 43), .ref (E.2.1 o1)]) ++ List.replicate (2 - (lg_sl ([.ref (E.2.1 43), .ref (E.2.1 o1)])).length) Slot.unset).toArray = ls at hl ⊢
  have hl : lv_has ls 2 [(0, .ref (E.2.1 43)), (1, .ref (E.2.1 o1))] := hl
  unfold f_X3_keep at hf
  have kw0 := hts (.fieldLink RX3 11 "MilkTwice$History" "kept" "[LMilkTwice$House;") (List.mem_of_getElem? (i := 1) rfl)
  have kw1 := hts (.fieldLink RX3 20 "MilkTwice$History" "next" "I") (List.mem_of_getElem? (i := 2) rfl)
  have kw2 := hts (.fieldLink RX3 28 "MilkTwice$History" "held" "I") (List.mem_of_getElem? (i := 3) rfl)
  have kw3 := hts (.methodLink RX3 31 Lib.Math.min.name) (List.mem_of_getElem? (i := 4) rfl)
  have kw4 := hts (.static Lib.Math.min.name) (List.mem_of_getElem? (i := 5) rfl)
  have kw5 := hts (.initialized "java/lang/Math") (List.mem_of_getElem? (i := 6) rfl)
  have kw6 := hts (.code Lib.Math.min.name Lib.Math.min.code 2 (some .int)) (List.mem_of_getElem? (i := 7) rfl)
  have hinX3 : ∀ w ∈ u_ws RX3 TX3 3, w ∈ wsX3_keep := fun w h => List.mem_cons_of_mem _ (List.mem_append_left _ (List.mem_append_left _ (List.mem_append_right _ h)))
  refine lv_aload_n hx hb dX3_keep_0 rfl (lv_at hl 0 rfl) ?_
  refine mt_getr (C := RX3) (T := TX3) (N := 3) hx hb hts hinX3 hown hI hH mt_T43 rfl 0 (by decide) kw0 rfl rfl dX3_keep_1 ?_
  refine lv_aload_n hx hb dX3_keep_4 rfl (lv_at hl 0 rfl) ?_
  refine mt_geti (C := RX3) (T := TX3) (N := 3) hx hb hts hinX3 hown hI hH mt_T43 rfl 1 (by decide) kw1 rfl rfl dX3_keep_5 ?_
  refine mt_ciI hf (fun q1 hf => ?_)
  refine mt_aldH hx hb hI hH q1 dX3_keep_8 ?_
  refine mt_ltr hf (fun g2 eg2 hf => ?_)
  have hg2 : mt_hou g2 := mt_hou_ix q1 eg2
  refine lv_aload_n hx hb dX3_keep_9 rfl (lv_at hl 1 rfl) ?_
  refine mt_b1I hf (fun M4 hg3 hf => ?_)
  refine mt_gov (mt_runV (i := g2) (As := [.ref (E.2.1 o1)]) (rest := []) ⟨hx, hb, hml, hown, hts⟩ hI hH (c_X4_become l E g2 hg2 o1 hh1 M u _ hg3) (cwV 1 hts gX3_keep_X4_become rfl rfl rfl (by decide +kernel) ⟨Nat.le_of_ble_eq_true rfl, Nat.le_of_ble_eq_true rfl⟩) (mt_T_hou hg2) rfl rfl hl.1 rfl (Nat.le_of_ble_eq_true rfl) dX3_keep_10 ⟨Nat.zero_le _, Nat.zero_le _⟩) hS (fun H locs hH hS => ?_)
  refine lv_aload_n hx hb dX3_keep_13 rfl (lv_at hl 0 rfl) ?_
  refine lv_aload_n hx hb dX3_keep_14 rfl (lv_at hl 0 rfl) ?_
  refine mt_geti (C := RX3) (T := TX3) (N := 3) hx hb hts hinX3 hown hI hH mt_T43 rfl 1 (by decide) kw1 rfl rfl dX3_keep_15 ?_
  refine lv_iconst (v := 1) hx hb dX3_keep_18 (by decide) ?_
  refine lv_iadd hx hb dX3_keep_19 ?_
  refine lv_bipush (v := 8) hx hb dX3_keep_20 (by decide) ?_
  refine lv_irem hx hb dX3_keep_22 (by decide) ?_
  refine mt_puti (ty := .int) (C := RX3) (T := TX3) (N := 3) hx hb hts hinX3 tyX3 tyX3_ok nmX3 hown hI hH hS mt_T43 rfl 1 (by decide) kw1 rfl rfl (by decide +kernel) rfl rfl rfl dX3_keep_23 (fun H locs hH hS => ?_)
  refine mt_ltI hf (fun M5 eM5 hf => ?_)
  rw [← eM5] at hH
  refine lv_aload_n hx hb dX3_keep_26 rfl (lv_at hl 0 rfl) ?_
  refine lv_bipush (v := 8) hx hb dX3_keep_27 (by decide) ?_
  refine lv_aload_n hx hb dX3_keep_29 rfl (lv_at hl 0 rfl) ?_
  refine mt_geti (C := RX3) (T := TX3) (N := 3) hx hb hts hinX3 hown hI hH mt_T43 rfl 2 (by decide) kw2 rfl rfl dX3_keep_30 ?_
  refine lv_iconst (v := 1) hx hb dX3_keep_33 (by decide) ?_
  refine lv_iadd hx hb dX3_keep_34 ?_
  refine va_mmin hx hb (hml.trans hl.1.symm) hown kw3 kw4 kw5 kw6 (Nat.le_of_ble_eq_true rfl) (Nat.le_of_ble_eq_true rfl) (Nat.zero_le _) (Nat.zero_le _) dX3_keep_35 ?_
  refine mt_lti hf (fun x6 ex6 hf => ?_)
  refine mt_puti (ty := .int) (C := RX3) (T := TX3) (N := 3) hx hb hts hinX3 tyX3 tyX3_ok nmX3 hown hI hH hS mt_T43 rfl 2 (by decide) kw2 rfl rfl (by decide +kernel) rfl rfl rfl dX3_keep_38 (fun H locs hH hS => ?_)
  refine mt_ltI hf (fun M7 eM7 hf => ?_)
  rw [← eM7] at hH
  have i1 := mt_so1 hf
  subst i1
  exact mt_vret hx hb hr hI hH hS hlocks dX3_keep_41
set_option maxHeartbeats 4000000 in
set_option maxRecDepth 100000 in
theorem c_X3_takeBack (l : Launch) (E : mt_E) (o1 : Nat) (hh1 : mt_hou o1) (M : mt_M) (u : mt_U) (r : Int32) (M' : mt_M) (hf : f_X3_takeBack o1 M = some (r, M')) : Met l yX3_takeBack wsX3_takeBack ({ frames := 3, cells := 0, slots := 0, locals := 68 } : Room) (mt_P E [.ref (E.2.1 43), .ref (E.2.1 o1)] M u) (mt_Qi E r M' u) 0 0 (mt_A E) := by
  refine Met.ofW (cc := cX3_takeBack) (maxL := 2) (ret := (some .int)) (by decide) rfl ?_
  intro p e s mid args below meth c0 s₁ B hml hv
  obtain ⟨rfl, hI, hH⟩ := hv
  have hx := B.exec
  have hb := B.bytes
  have hr := B.returns
  have hts := atoms_spec (ws := wsX3_takeBack) B.pre
  have hown : s.vm.findClass RX3 = some mid.cls := findClass_of_methodNamed B.named
  have hlocks := B.notSynchronized
  have hS : va_S (mt_A E) s.heap s.heap [] := va_S.rf
  have hl := lv_entry ([.ref (E.2.1 43), .ref (E.2.1 o1)]) (n := 2) (Nat.le_of_ble_eq_true rfl)
  rw [lg_entry_eq]
  generalize (lg_sl ([.ref (E.2.1 43), .ref (E.2.1 o1)]) ++ List.replicate (2 - (lg_sl ([.ref (E.2.1 43), .ref (E.2.1 o1)])).length) Slot.unset).toArray = ls at hl ⊢
  have hl : lv_has ls 2 [(0, .ref (E.2.1 43)), (1, .ref (E.2.1 o1))] := hl
  unfold f_X3_takeBack at hf
  have kw0 := hts (.fieldLink RX3 28 "MilkTwice$History" "held" "I") (List.mem_of_getElem? (i := 1) rfl)
  have kw1 := hts (.fieldLink RX3 20 "MilkTwice$History" "next" "I") (List.mem_of_getElem? (i := 2) rfl)
  have kw2 := hts (.fieldLink RX3 11 "MilkTwice$History" "kept" "[LMilkTwice$House;") (List.mem_of_getElem? (i := 3) rfl)
  have hinX3 : ∀ w ∈ u_ws RX3 TX3 3, w ∈ wsX3_takeBack := fun w h => List.mem_cons_of_mem _ (List.mem_append_left _ (List.mem_append_left _ (List.mem_append_right _ h)))
  refine lv_aload_n hx hb dX3_takeBack_0 rfl (lv_at hl 0 rfl) ?_
  refine mt_geti (C := RX3) (T := TX3) (N := 3) hx hb hts hinX3 hown hI hH mt_T43 rfl 2 (by decide) kw0 rfl rfl dX3_takeBack_1 ?_
  refine lv_if_le (tgt := 46) hx hb dX3_takeBack_4 (by decide) (fun c1 => ?_) (fun c1 => ?_)
  · have hf := mt_ifT c1 hf
    refine lv_aload_n hx hb dX3_takeBack_46 rfl (lv_at hl 0 rfl) ?_
    refine mt_geti (C := RX3) (T := TX3) (N := 3) hx hb hts hinX3 hown hI hH mt_T43 rfl 2 (by decide) kw0 rfl rfl dX3_takeBack_47 ?_
    obtain ⟨i1, i2⟩ := mt_so2 hf
    subst i1
    subst i2
    exact mt_iret hx hb hr hI hH hS hlocks dX3_takeBack_50
  · have hf := mt_ifF c1 hf
    refine lv_aload_n hx hb dX3_takeBack_7 rfl (lv_at hl 0 rfl) ?_
    refine lv_aload_n hx hb dX3_takeBack_8 rfl (lv_at hl 0 rfl) ?_
    refine mt_geti (C := RX3) (T := TX3) (N := 3) hx hb hts hinX3 hown hI hH mt_T43 rfl 1 (by decide) kw1 rfl rfl dX3_takeBack_9 ?_
    refine lv_bipush (v := 8) hx hb dX3_takeBack_12 (by decide) ?_
    refine lv_iadd hx hb dX3_takeBack_14 ?_
    refine lv_iconst (v := 1) hx hb dX3_takeBack_15 (by decide) ?_
    refine lv_isub hx hb dX3_takeBack_16 ?_
    refine lv_bipush (v := 8) hx hb dX3_takeBack_17 (by decide) ?_
    refine lv_irem hx hb dX3_takeBack_19 (by decide) ?_
    refine mt_puti (ty := .int) (C := RX3) (T := TX3) (N := 3) hx hb hts hinX3 tyX3 tyX3_ok nmX3 hown hI hH hS mt_T43 rfl 1 (by decide) kw1 rfl rfl (by decide +kernel) rfl rfl rfl dX3_takeBack_20 (fun H locs hH hS => ?_)
    refine mt_ltI hf (fun M2 eM2 hf => ?_)
    rw [← eM2] at hH
    refine lv_aload_n hx hb dX3_takeBack_23 rfl (lv_at hl 0 rfl) ?_
    refine lv_dup hx hb dX3_takeBack_24 rfl ?_
    refine mt_geti (C := RX3) (T := TX3) (N := 3) hx hb hts hinX3 hown hI hH mt_T43 rfl 2 (by decide) kw0 rfl rfl dX3_takeBack_25 ?_
    refine lv_iconst (v := 1) hx hb dX3_takeBack_28 (by decide) ?_
    refine lv_isub hx hb dX3_takeBack_29 ?_
    refine mt_puti (ty := .int) (C := RX3) (T := TX3) (N := 3) hx hb hts hinX3 tyX3 tyX3_ok nmX3 hown hI hH hS mt_T43 rfl 2 (by decide) kw0 rfl rfl (by decide +kernel) rfl rfl rfl dX3_takeBack_30 (fun H locs hH hS => ?_)
    refine mt_ltI hf (fun M3 eM3 hf => ?_)
    rw [← eM3] at hH
    refine lv_aload_n hx hb dX3_takeBack_33 rfl (lv_at hl 1 rfl) ?_
    refine lv_aload_n hx hb dX3_takeBack_34 rfl (lv_at hl 0 rfl) ?_
    refine mt_getr (C := RX3) (T := TX3) (N := 3) hx hb hts hinX3 hown hI hH mt_T43 rfl 0 (by decide) kw2 rfl rfl dX3_takeBack_35 ?_
    refine lv_aload_n hx hb dX3_takeBack_38 rfl (lv_at hl 0 rfl) ?_
    refine mt_geti (C := RX3) (T := TX3) (N := 3) hx hb hts hinX3 hown hI hH mt_T43 rfl 1 (by decide) kw1 rfl rfl dX3_takeBack_39 ?_
    refine mt_ciI hf (fun q4 hf => ?_)
    refine mt_aldH hx hb hI hH q4 dX3_takeBack_42 ?_
    refine mt_ltr hf (fun g5 eg5 hf => ?_)
    have hg5 : mt_hou g5 := mt_hou_ix q4 eg5
    refine mt_b1I hf (fun M7 hg6 hf => ?_)
    refine mt_gov (mt_runV (i := o1) (As := [.ref (E.2.1 g5)]) (rest := []) ⟨hx, hb, hml, hown, hts⟩ hI hH (c_X4_become l E o1 hh1 g5 hg5 M3 u _ hg6) (cwV 1 hts gX3_takeBack_X4_become rfl rfl rfl (by decide +kernel) ⟨Nat.le_of_ble_eq_true rfl, Nat.le_of_ble_eq_true rfl⟩) (mt_T_hou hh1) rfl rfl hl.1 rfl (Nat.le_of_ble_eq_true rfl) dX3_takeBack_43 ⟨Nat.zero_le _, Nat.zero_le _⟩) hS (fun H locs hH hS => ?_)
    refine lv_aload_n hx hb dX3_takeBack_46 rfl (lv_at hl 0 rfl) ?_
    refine mt_geti (C := RX3) (T := TX3) (N := 3) hx hb hts hinX3 hown hI hH mt_T43 rfl 2 (by decide) kw0 rfl rfl dX3_takeBack_47 ?_
    obtain ⟨i1, i2⟩ := mt_so2 hf
    subst i1
    subst i2
    exact mt_iret hx hb hr hI hH hS hlocks dX3_takeBack_50
set_option maxHeartbeats 4000000 in
set_option maxRecDepth 100000 in
theorem c_X3_forget (l : Launch) (E : mt_E)  (M : mt_M) (u : mt_U) (M' : mt_M) (hf : f_X3_forget M = some (M')) : Met l yX3_forget wsX3_forget ({ frames := 0, cells := 0, slots := 0, locals := 0 } : Room) (mt_P E [.ref (E.2.1 43)] M u) (mt_Qv E M' u) 0 0 (mt_A E) := by
  refine Met.ofW (cc := cX3_forget) (maxL := 1) (ret := none) (by decide) rfl ?_
  intro p e s mid args below meth c0 s₁ B hml hv
  obtain ⟨rfl, hI, hH⟩ := hv
  have hx := B.exec
  have hb := B.bytes
  have hr := B.returns
  have hts := atoms_spec (ws := wsX3_forget) B.pre
  have hown : s.vm.findClass RX3 = some mid.cls := findClass_of_methodNamed B.named
  have hlocks := B.notSynchronized
  have hS : va_S (mt_A E) s.heap s.heap [] := va_S.rf
  have hl := lv_entry ([.ref (E.2.1 43)]) (n := 1) (Nat.le_of_ble_eq_true rfl)
  rw [lg_entry_eq]
  generalize (lg_sl ([.ref (E.2.1 43)]) ++ List.replicate (1 - (lg_sl ([.ref (E.2.1 43)])).length) Slot.unset).toArray = ls at hl ⊢
  have hl : lv_has ls 1 [(0, .ref (E.2.1 43))] := hl
  unfold f_X3_forget at hf
  have kw0 := hts (.fieldLink RX3 28 "MilkTwice$History" "held" "I") (List.mem_of_getElem? (i := 1) rfl)
  have hinX3 : ∀ w ∈ u_ws RX3 TX3 3, w ∈ wsX3_forget := fun w h => List.mem_cons_of_mem _ (List.mem_append_right _ h)
  refine lv_aload_n hx hb dX3_forget_0 rfl (lv_at hl 0 rfl) ?_
  refine lv_iconst (v := 0) hx hb dX3_forget_1 (by decide) ?_
  refine mt_puti (ty := .int) (C := RX3) (T := TX3) (N := 3) hx hb hts hinX3 tyX3 tyX3_ok nmX3 hown hI hH hS mt_T43 rfl 2 (by decide) kw0 rfl rfl (by decide +kernel) rfl rfl rfl dX3_forget_2 (fun H locs hH hS => ?_)
  refine mt_ltI hf (fun M1 eM1 hf => ?_)
  rw [← eM1] at hH
  have i1 := mt_so1 hf
  subst i1
  exact mt_vret hx hb hr hI hH hS hlocks dX3_forget_5
set_option maxHeartbeats 4000000 in
set_option maxRecDepth 100000 in
theorem c_X7_isFull (l : Launch) (E : mt_E)  (M : mt_M) (u : mt_U) (r : Int32) (hf : f_X7_isFull M = some (r)) : Met l yX7_isFull wsX7_isFull ({ frames := 0, cells := 0, slots := 0, locals := 0 } : Room) (mt_P E [.ref (E.2.1 145)] M u) (mt_Qi E r M u) 0 0 (mt_A E) := by
  refine Met.ofW (cc := cX7_isFull) (maxL := 1) (ret := (some .boolean)) (by decide) rfl ?_
  intro p e s mid args below meth c0 s₁ B hml hv
  obtain ⟨rfl, hI, hH⟩ := hv
  have hx := B.exec
  have hb := B.bytes
  have hr := B.returns
  have hts := atoms_spec (ws := wsX7_isFull) B.pre
  have hown : s.vm.findClass RX7 = some mid.cls := findClass_of_methodNamed B.named
  have hlocks := B.notSynchronized
  have hS : va_S (mt_A E) s.heap s.heap [] := va_S.rf
  have hl := lv_entry ([.ref (E.2.1 145)]) (n := 1) (Nat.le_of_ble_eq_true rfl)
  rw [lg_entry_eq]
  generalize (lg_sl ([.ref (E.2.1 145)]) ++ List.replicate (1 - (lg_sl ([.ref (E.2.1 145)])).length) Slot.unset).toArray = ls at hl ⊢
  have hl : lv_has ls 1 [(0, .ref (E.2.1 145))] := hl
  unfold f_X7_isFull at hf
  have kw0 := hts (.fieldLink RX7 15 "MilkTwice$Letters" "length" "I") (List.mem_of_getElem? (i := 1) rfl)
  have hinX7 : ∀ w ∈ u_ws RX7 TX7 2, w ∈ wsX7_isFull := fun w h => List.mem_cons_of_mem _ (List.mem_append_right _ h)
  refine lv_aload_n hx hb dX7_isFull_0 rfl (lv_at hl 0 rfl) ?_
  refine mt_geti (C := RX7) (T := TX7) (N := 2) hx hb hts hinX7 hown hI hH mt_T145 rfl 1 (by decide) kw0 rfl rfl dX7_isFull_1 ?_
  refine lv_bipush (v := 96) hx hb dX7_isFull_4 (by decide) ?_
  refine lv_icmp_lt (tgt := 13) hx hb dX7_isFull_6 (by decide) (fun c1 => ?_) (fun c1 => ?_)
  · have hf := mt_ifT c1 hf
    refine lv_iconst (v := 0) hx hb dX7_isFull_13 (by decide) ?_
    have i1 := mt_so1 hf
    subst i1
    exact mt_zret hx hb hr hI hH hS (by decide) hlocks dX7_isFull_14
  · have hf := mt_ifF c1 hf
    refine lv_iconst (v := 1) hx hb dX7_isFull_9 (by decide) ?_
    refine lv_goto (tgt := 14) hx hb dX7_isFull_10 (by decide) ?_
    have i1 := mt_so1 hf
    subst i1
    exact mt_zret hx hb hr hI hH hS (by decide) hlocks dX7_isFull_14
set_option maxHeartbeats 4000000 in
set_option maxRecDepth 100000 in
theorem c_X7_add (l : Launch) (E : mt_E) (a1 : Int32) (M : mt_M) (u : mt_U) (r : Int32) (M' : mt_M) (hf : f_X7_add a1 M = some (r, M')) : Met l yX7_add wsX7_add ({ frames := 1, cells := 0, slots := 0, locals := 20 } : Room) (mt_P E [.ref (E.2.1 145), .int a1] M u) (mt_Qi E r M' u) 0 0 (mt_A E) := by
  refine Met.ofW (cc := cX7_add) (maxL := 2) (ret := (some .int)) (by decide) rfl ?_
  intro p e s mid args below meth c0 s₁ B hml hv
  obtain ⟨rfl, hI, hH⟩ := hv
  have hx := B.exec
  have hb := B.bytes
  have hr := B.returns
  have hts := atoms_spec (ws := wsX7_add) B.pre
  have hown : s.vm.findClass RX7 = some mid.cls := findClass_of_methodNamed B.named
  have hlocks := B.notSynchronized
  have hS : va_S (mt_A E) s.heap s.heap [] := va_S.rf
  have hl := lv_entry ([.ref (E.2.1 145), .int a1]) (n := 2) (Nat.le_of_ble_eq_true rfl)
  rw [lg_entry_eq]
  generalize (lg_sl ([.ref (E.2.1 145), .int a1]) ++ List.replicate (2 - (lg_sl ([.ref (E.2.1 145), .int a1])).length) Slot.unset).toArray = ls at hl ⊢
  have hl : lv_has ls 2 [(0, .ref (E.2.1 145)), (1, .int a1)] := hl
  unfold f_X7_add at hf
  have kw0 := hts (.fieldLink RX7 15 "MilkTwice$Letters" "length" "I") (List.mem_of_getElem? (i := 2) rfl)
  have kw1 := hts (.fieldLink RX7 9 "MilkTwice$Letters" "text" "[I") (List.mem_of_getElem? (i := 1) rfl)
  have hinX7 : ∀ w ∈ u_ws RX7 TX7 2, w ∈ wsX7_add := fun w h => List.mem_cons_of_mem _ (List.mem_append_right _ h)
  refine lv_aload_n hx hb dX7_add_0 rfl (lv_at hl 0 rfl) ?_
  refine mt_b1I hf (fun r2 hg1 hf => ?_)
  refine mt_goi (mt_runV (i := 145) (As := []) (rest := []) ⟨hx, hb, hml, hown, hts⟩ hI hH (c_X7_isFull l E M u _ hg1) (cwV 0 hts gX7_add_X7_isFull rfl rfl rfl (by decide +kernel) ⟨Nat.le_of_ble_eq_true rfl, Nat.le_of_ble_eq_true rfl⟩) mt_T145 rfl rfl hl.1 rfl (Nat.le_of_ble_eq_true rfl) dX7_add_1 ⟨Nat.zero_le _, Nat.zero_le _⟩) hS (fun H locs hH hS => ?_)
  refine lv_if_ne (tgt := 27) hx hb dX7_add_4 (by decide) (fun c3 => ?_) (fun c3 => ?_)
  · have hf := mt_ifF c3 hf
    refine lv_aload_n hx hb dX7_add_27 rfl (lv_at hl 0 rfl) ?_
    refine mt_geti (C := RX7) (T := TX7) (N := 2) hx hb hts hinX7 hown hI hH mt_T145 rfl 1 (by decide) kw0 rfl rfl dX7_add_28 ?_
    obtain ⟨i1, i2⟩ := mt_so2 hf
    subst i1
    subst i2
    exact mt_iret hx hb hr hI hH hS hlocks dX7_add_31
  · have hf := mt_ifT c3 hf
    refine lv_aload_n hx hb dX7_add_7 rfl (lv_at hl 0 rfl) ?_
    refine mt_getr (C := RX7) (T := TX7) (N := 2) hx hb hts hinX7 hown hI hH mt_T145 rfl 0 (by decide) kw1 rfl rfl dX7_add_8 ?_
    refine lv_aload_n hx hb dX7_add_11 rfl (lv_at hl 0 rfl) ?_
    refine mt_geti (C := RX7) (T := TX7) (N := 2) hx hb hts hinX7 hown hI hH mt_T145 rfl 1 (by decide) kw0 rfl rfl dX7_add_12 ?_
    refine lv_iload_n hx hb dX7_add_15 rfl (lv_at hl 1 rfl) ?_
    refine mt_ciI hf (fun q5 hf => ?_)
    refine mt_iast hx hb hI hH hS mt_T146 q5 dX7_add_16 (fun H locs hH hS => ?_)
    refine mt_ltI hf (fun M4 eM4 hf => ?_)
    rw [← eM4] at hH
    refine lv_aload_n hx hb dX7_add_17 rfl (lv_at hl 0 rfl) ?_
    refine lv_dup hx hb dX7_add_18 rfl ?_
    refine mt_geti (C := RX7) (T := TX7) (N := 2) hx hb hts hinX7 hown hI hH mt_T145 rfl 1 (by decide) kw0 rfl rfl dX7_add_19 ?_
    refine lv_iconst (v := 1) hx hb dX7_add_22 (by decide) ?_
    refine lv_iadd hx hb dX7_add_23 ?_
    refine mt_puti (ty := .int) (C := RX7) (T := TX7) (N := 2) hx hb hts hinX7 tyX7 tyX7_ok nmX7 hown hI hH hS mt_T145 rfl 1 (by decide) kw0 rfl rfl (by decide +kernel) rfl rfl rfl dX7_add_24 (fun H locs hH hS => ?_)
    refine mt_ltI hf (fun M6 eM6 hf => ?_)
    rw [← eM6] at hH
    refine lv_aload_n hx hb dX7_add_27 rfl (lv_at hl 0 rfl) ?_
    refine mt_geti (C := RX7) (T := TX7) (N := 2) hx hb hts hinX7 hown hI hH mt_T145 rfl 1 (by decide) kw0 rfl rfl dX7_add_28 ?_
    obtain ⟨i1, i2⟩ := mt_so2 hf
    subst i1
    subst i2
    exact mt_iret hx hb hr hI hH hS hlocks dX7_add_31
set_option maxHeartbeats 4000000 in
set_option maxRecDepth 100000 in
theorem c_X7_wipe (l : Launch) (E : mt_E)  (M : mt_M) (u : mt_U) (M' : mt_M) (hf : f_X7_wipe M = some (M')) : Met l yX7_wipe wsX7_wipe ({ frames := 0, cells := 0, slots := 0, locals := 0 } : Room) (mt_P E [.ref (E.2.1 145)] M u) (mt_Qv E M' u) 0 0 (mt_A E) := by
  refine Met.ofW (cc := cX7_wipe) (maxL := 1) (ret := none) (by decide) rfl ?_
  intro p e s mid args below meth c0 s₁ B hml hv
  obtain ⟨rfl, hI, hH⟩ := hv
  have hx := B.exec
  have hb := B.bytes
  have hr := B.returns
  have hts := atoms_spec (ws := wsX7_wipe) B.pre
  have hown : s.vm.findClass RX7 = some mid.cls := findClass_of_methodNamed B.named
  have hlocks := B.notSynchronized
  have hS : va_S (mt_A E) s.heap s.heap [] := va_S.rf
  have hl := lv_entry ([.ref (E.2.1 145)]) (n := 1) (Nat.le_of_ble_eq_true rfl)
  rw [lg_entry_eq]
  generalize (lg_sl ([.ref (E.2.1 145)]) ++ List.replicate (1 - (lg_sl ([.ref (E.2.1 145)])).length) Slot.unset).toArray = ls at hl ⊢
  have hl : lv_has ls 1 [(0, .ref (E.2.1 145))] := hl
  unfold f_X7_wipe at hf
  have kw0 := hts (.fieldLink RX7 15 "MilkTwice$Letters" "length" "I") (List.mem_of_getElem? (i := 1) rfl)
  have hinX7 : ∀ w ∈ u_ws RX7 TX7 2, w ∈ wsX7_wipe := fun w h => List.mem_cons_of_mem _ (List.mem_append_right _ h)
  refine lv_aload_n hx hb dX7_wipe_0 rfl (lv_at hl 0 rfl) ?_
  refine lv_iconst (v := 0) hx hb dX7_wipe_1 (by decide) ?_
  refine mt_puti (ty := .int) (C := RX7) (T := TX7) (N := 2) hx hb hts hinX7 tyX7 tyX7_ok nmX7 hown hI hH hS mt_T145 rfl 1 (by decide) kw0 rfl rfl (by decide +kernel) rfl rfl rfl dX7_wipe_2 (fun H locs hH hS => ?_)
  refine mt_ltI hf (fun M1 eM1 hf => ?_)
  rw [← eM1] at hH
  have i1 := mt_so1 hf
  subst i1
  exact mt_vret hx hb hr hI hH hS hlocks dX7_wipe_5
set_option maxHeartbeats 4000000 in
set_option maxRecDepth 100000 in
theorem c_X7_letterAt (l : Launch) (E : mt_E) (a1 : Int32) (M : mt_M) (u : mt_U) (r : Int32) (hf : f_X7_letterAt a1 M = some (r)) : Met l yX7_letterAt wsX7_letterAt ({ frames := 0, cells := 0, slots := 0, locals := 0 } : Room) (mt_P E [.ref (E.2.1 145), .int a1] M u) (mt_Qi E r M u) 0 0 (mt_A E) := by
  refine Met.ofW (cc := cX7_letterAt) (maxL := 2) (ret := (some .int)) (by decide) rfl ?_
  intro p e s mid args below meth c0 s₁ B hml hv
  obtain ⟨rfl, hI, hH⟩ := hv
  have hx := B.exec
  have hb := B.bytes
  have hr := B.returns
  have hts := atoms_spec (ws := wsX7_letterAt) B.pre
  have hown : s.vm.findClass RX7 = some mid.cls := findClass_of_methodNamed B.named
  have hlocks := B.notSynchronized
  have hS : va_S (mt_A E) s.heap s.heap [] := va_S.rf
  have hl := lv_entry ([.ref (E.2.1 145), .int a1]) (n := 2) (Nat.le_of_ble_eq_true rfl)
  rw [lg_entry_eq]
  generalize (lg_sl ([.ref (E.2.1 145), .int a1]) ++ List.replicate (2 - (lg_sl ([.ref (E.2.1 145), .int a1])).length) Slot.unset).toArray = ls at hl ⊢
  have hl : lv_has ls 2 [(0, .ref (E.2.1 145)), (1, .int a1)] := hl
  unfold f_X7_letterAt at hf
  have kw0 := hts (.fieldLink RX7 15 "MilkTwice$Letters" "length" "I") (List.mem_of_getElem? (i := 1) rfl)
  have kw1 := hts (.fieldLink RX7 9 "MilkTwice$Letters" "text" "[I") (List.mem_of_getElem? (i := 2) rfl)
  have hinX7 : ∀ w ∈ u_ws RX7 TX7 2, w ∈ wsX7_letterAt := fun w h => List.mem_cons_of_mem _ (List.mem_append_right _ h)
  refine lv_iload_n hx hb dX7_letterAt_0 rfl (lv_at hl 1 rfl) ?_
  refine lv_if_lt (tgt := 21) hx hb dX7_letterAt_1 (by decide) (fun c1 => ?_) (fun c1 => ?_)
  · have hf := mt_ifT c1 hf
    refine lv_iconst (v := (-1)) hx hb dX7_letterAt_21 (by decide) ?_
    have i1 := mt_so1 hf
    subst i1
    exact mt_iret hx hb hr hI hH hS hlocks dX7_letterAt_22
  · have hf := mt_ifF c1 hf
    refine lv_iload_n hx hb dX7_letterAt_4 rfl (lv_at hl 1 rfl) ?_
    refine lv_aload_n hx hb dX7_letterAt_5 rfl (lv_at hl 0 rfl) ?_
    refine mt_geti (C := RX7) (T := TX7) (N := 2) hx hb hts hinX7 hown hI hH mt_T145 rfl 1 (by decide) kw0 rfl rfl dX7_letterAt_6 ?_
    refine lv_icmp_ge (tgt := 21) hx hb dX7_letterAt_9 (by decide) (fun c2 => ?_) (fun c2 => ?_)
    · have hf := mt_ifT c2 hf
      refine lv_iconst (v := (-1)) hx hb dX7_letterAt_21 (by decide) ?_
      have i1 := mt_so1 hf
      subst i1
      exact mt_iret hx hb hr hI hH hS hlocks dX7_letterAt_22
    · have hf := mt_ifF c2 hf
      refine lv_aload_n hx hb dX7_letterAt_12 rfl (lv_at hl 0 rfl) ?_
      refine mt_getr (C := RX7) (T := TX7) (N := 2) hx hb hts hinX7 hown hI hH mt_T145 rfl 0 (by decide) kw1 rfl rfl dX7_letterAt_13 ?_
      refine lv_iload_n hx hb dX7_letterAt_16 rfl (lv_at hl 1 rfl) ?_
      refine mt_ciI hf (fun q3 hf => ?_)
      refine mt_iald hx hb hI hH mt_T146 q3 dX7_letterAt_17 ?_
      refine lv_goto (tgt := 22) hx hb dX7_letterAt_18 (by decide) ?_
      have i1 := mt_so1 hf
      subst i1
      exact mt_iret hx hb hr hI hH hS hlocks dX7_letterAt_22
set_option maxHeartbeats 4000000 in
set_option maxRecDepth 100000 in
theorem c_X7_digitsBehind (l : Launch) (E : mt_E) (a0 : Int32) (M : mt_M) (u : mt_U) (r : Int32) (hf : f_X7_digitsBehind a0 = some (r)) : Met l yX7_digitsBehind wsX7_digitsBehind ({ frames := 0, cells := 0, slots := 0, locals := 0 } : Room) (mt_P E [.int a0] M u) (mt_Qi E r M u) 0 0 (mt_A E) := by
  refine Met.ofW (cc := cX7_digitsBehind) (maxL := 1) (ret := (some .int)) (by decide) rfl ?_
  intro p e s mid args below meth c0 s₁ B hml hv
  obtain ⟨rfl, hI, hH⟩ := hv
  have hx := B.exec
  have hb := B.bytes
  have hr := B.returns
  have hts := atoms_spec (ws := wsX7_digitsBehind) B.pre
  have hown : s.vm.findClass RX7 = some mid.cls := findClass_of_methodNamed B.named
  have hlocks := B.notSynchronized
  have hS : va_S (mt_A E) s.heap s.heap [] := va_S.rf
  have hl := lv_entry ([.int a0]) (n := 1) (Nat.le_of_ble_eq_true rfl)
  rw [lg_entry_eq]
  generalize (lg_sl ([.int a0]) ++ List.replicate (1 - (lg_sl ([.int a0])).length) Slot.unset).toArray = ls at hl ⊢
  have hl : lv_has ls 1 [(0, .int a0)] := hl
  unfold f_X7_digitsBehind at hf
  refine lv_iload_n hx hb dX7_digitsBehind_0 rfl (lv_at hl 0 rfl) ?_
  by_cases c1 : a0 = (100 : Int32)
  · have hf := mt_ifT c1 hf
    refine lv_tableIn (off := 101) (tgt := 102) hx hb dX7_digitsBehind_1 (by rw [c1]; decide) (by rw [c1]; decide) (by rw [c1]; rfl) (by decide) ?_
    refine lv_iconst (v := 1) hx hb dX7_digitsBehind_102 (by decide) ?_
    have i1 := mt_so1 hf
    subst i1
    exact mt_iret hx hb hr hI hH hS hlocks dX7_digitsBehind_103
  · have hf := mt_ifF c1 hf
    by_cases c2 : a0 = (101 : Int32)
    · have hf := mt_ifT c2 hf
      refine lv_tableIn (off := 107) (tgt := 108) hx hb dX7_digitsBehind_1 (by rw [c2]; decide) (by rw [c2]; decide) (by rw [c2]; rfl) (by decide) ?_
      refine lv_iconst (v := (-1)) hx hb dX7_digitsBehind_108 (by decide) ?_
      have i1 := mt_so1 hf
      subst i1
      exact mt_iret hx hb hr hI hH hS hlocks dX7_digitsBehind_109
    · have hf := mt_ifF c2 hf
      by_cases c3 : a0 = (102 : Int32)
      · have hf := mt_ifT c3 hf
        refine lv_tableIn (off := 107) (tgt := 108) hx hb dX7_digitsBehind_1 (by rw [c3]; decide) (by rw [c3]; decide) (by rw [c3]; rfl) (by decide) ?_
        refine lv_iconst (v := (-1)) hx hb dX7_digitsBehind_108 (by decide) ?_
        have i1 := mt_so1 hf
        subst i1
        exact mt_iret hx hb hr hI hH hS hlocks dX7_digitsBehind_109
      · have hf := mt_ifF c3 hf
        by_cases c4 : a0 = (103 : Int32)
        · have hf := mt_ifT c4 hf
          refine lv_tableIn (off := 107) (tgt := 108) hx hb dX7_digitsBehind_1 (by rw [c4]; decide) (by rw [c4]; decide) (by rw [c4]; rfl) (by decide) ?_
          refine lv_iconst (v := (-1)) hx hb dX7_digitsBehind_108 (by decide) ?_
          have i1 := mt_so1 hf
          subst i1
          exact mt_iret hx hb hr hI hH hS hlocks dX7_digitsBehind_109
        · have hf := mt_ifF c4 hf
          by_cases c5 : a0 = (104 : Int32)
          · have hf := mt_ifT c5 hf
            refine lv_tableIn (off := 107) (tgt := 108) hx hb dX7_digitsBehind_1 (by rw [c5]; decide) (by rw [c5]; decide) (by rw [c5]; rfl) (by decide) ?_
            refine lv_iconst (v := (-1)) hx hb dX7_digitsBehind_108 (by decide) ?_
            have i1 := mt_so1 hf
            subst i1
            exact mt_iret hx hb hr hI hH hS hlocks dX7_digitsBehind_109
          · have hf := mt_ifF c5 hf
            by_cases c6 : a0 = (105 : Int32)
            · have hf := mt_ifT c6 hf
              refine lv_tableIn (off := 107) (tgt := 108) hx hb dX7_digitsBehind_1 (by rw [c6]; decide) (by rw [c6]; decide) (by rw [c6]; rfl) (by decide) ?_
              refine lv_iconst (v := (-1)) hx hb dX7_digitsBehind_108 (by decide) ?_
              have i1 := mt_so1 hf
              subst i1
              exact mt_iret hx hb hr hI hH hS hlocks dX7_digitsBehind_109
            · have hf := mt_ifF c6 hf
              by_cases c7 : a0 = (106 : Int32)
              · have hf := mt_ifT c7 hf
                refine lv_tableIn (off := 99) (tgt := 100) hx hb dX7_digitsBehind_1 (by rw [c7]; decide) (by rw [c7]; decide) (by rw [c7]; rfl) (by decide) ?_
                refine lv_iconst (v := 0) hx hb dX7_digitsBehind_100 (by decide) ?_
                have i1 := mt_so1 hf
                subst i1
                exact mt_iret hx hb hr hI hH hS hlocks dX7_digitsBehind_101
              · have hf := mt_ifF c7 hf
                by_cases c8 : a0 = (107 : Int32)
                · have hf := mt_ifT c8 hf
                  refine lv_tableIn (off := 103) (tgt := 104) hx hb dX7_digitsBehind_1 (by rw [c8]; decide) (by rw [c8]; decide) (by rw [c8]; rfl) (by decide) ?_
                  refine lv_iconst (v := 2) hx hb dX7_digitsBehind_104 (by decide) ?_
                  have i1 := mt_so1 hf
                  subst i1
                  exact mt_iret hx hb hr hI hH hS hlocks dX7_digitsBehind_105
                · have hf := mt_ifF c8 hf
                  by_cases c9 : a0 = (108 : Int32)
                  · have hf := mt_ifT c9 hf
                    refine lv_tableIn (off := 107) (tgt := 108) hx hb dX7_digitsBehind_1 (by rw [c9]; decide) (by rw [c9]; decide) (by rw [c9]; rfl) (by decide) ?_
                    refine lv_iconst (v := (-1)) hx hb dX7_digitsBehind_108 (by decide) ?_
                    have i1 := mt_so1 hf
                    subst i1
                    exact mt_iret hx hb hr hI hH hS hlocks dX7_digitsBehind_109
                  · have hf := mt_ifF c9 hf
                    by_cases c10 : a0 = (109 : Int32)
                    · have hf := mt_ifT c10 hf
                      refine lv_tableIn (off := 107) (tgt := 108) hx hb dX7_digitsBehind_1 (by rw [c10]; decide) (by rw [c10]; decide) (by rw [c10]; rfl) (by decide) ?_
                      refine lv_iconst (v := (-1)) hx hb dX7_digitsBehind_108 (by decide) ?_
                      have i1 := mt_so1 hf
                      subst i1
                      exact mt_iret hx hb hr hI hH hS hlocks dX7_digitsBehind_109
                    · have hf := mt_ifF c10 hf
                      by_cases c11 : a0 = (110 : Int32)
                      · have hf := mt_ifT c11 hf
                        refine lv_tableIn (off := 107) (tgt := 108) hx hb dX7_digitsBehind_1 (by rw [c11]; decide) (by rw [c11]; decide) (by rw [c11]; rfl) (by decide) ?_
                        refine lv_iconst (v := (-1)) hx hb dX7_digitsBehind_108 (by decide) ?_
                        have i1 := mt_so1 hf
                        subst i1
                        exact mt_iret hx hb hr hI hH hS hlocks dX7_digitsBehind_109
                      · have hf := mt_ifF c11 hf
                        by_cases c12 : a0 = (111 : Int32)
                        · have hf := mt_ifT c12 hf
                          refine lv_tableIn (off := 107) (tgt := 108) hx hb dX7_digitsBehind_1 (by rw [c12]; decide) (by rw [c12]; decide) (by rw [c12]; rfl) (by decide) ?_
                          refine lv_iconst (v := (-1)) hx hb dX7_digitsBehind_108 (by decide) ?_
                          have i1 := mt_so1 hf
                          subst i1
                          exact mt_iret hx hb hr hI hH hS hlocks dX7_digitsBehind_109
                        · have hf := mt_ifF c12 hf
                          by_cases c13 : a0 = (112 : Int32)
                          · have hf := mt_ifT c13 hf
                            refine lv_tableIn (off := 107) (tgt := 108) hx hb dX7_digitsBehind_1 (by rw [c13]; decide) (by rw [c13]; decide) (by rw [c13]; rfl) (by decide) ?_
                            refine lv_iconst (v := (-1)) hx hb dX7_digitsBehind_108 (by decide) ?_
                            have i1 := mt_so1 hf
                            subst i1
                            exact mt_iret hx hb hr hI hH hS hlocks dX7_digitsBehind_109
                          · have hf := mt_ifF c13 hf
                            by_cases c14 : a0 = (113 : Int32)
                            · have hf := mt_ifT c14 hf
                              refine lv_tableIn (off := 107) (tgt := 108) hx hb dX7_digitsBehind_1 (by rw [c14]; decide) (by rw [c14]; decide) (by rw [c14]; rfl) (by decide) ?_
                              refine lv_iconst (v := (-1)) hx hb dX7_digitsBehind_108 (by decide) ?_
                              have i1 := mt_so1 hf
                              subst i1
                              exact mt_iret hx hb hr hI hH hS hlocks dX7_digitsBehind_109
                            · have hf := mt_ifF c14 hf
                              by_cases c15 : a0 = (114 : Int32)
                              · have hf := mt_ifT c15 hf
                                refine lv_tableIn (off := 101) (tgt := 102) hx hb dX7_digitsBehind_1 (by rw [c15]; decide) (by rw [c15]; decide) (by rw [c15]; rfl) (by decide) ?_
                                refine lv_iconst (v := 1) hx hb dX7_digitsBehind_102 (by decide) ?_
                                have i1 := mt_so1 hf
                                subst i1
                                exact mt_iret hx hb hr hI hH hS hlocks dX7_digitsBehind_103
                              · have hf := mt_ifF c15 hf
                                by_cases c16 : a0 = (115 : Int32)
                                · have hf := mt_ifT c16 hf
                                  refine lv_tableIn (off := 105) (tgt := 106) hx hb dX7_digitsBehind_1 (by rw [c16]; decide) (by rw [c16]; decide) (by rw [c16]; rfl) (by decide) ?_
                                  refine lv_iconst (v := 3) hx hb dX7_digitsBehind_106 (by decide) ?_
                                  have i1 := mt_so1 hf
                                  subst i1
                                  exact mt_iret hx hb hr hI hH hS hlocks dX7_digitsBehind_107
                                · have hf := mt_ifF c16 hf
                                  by_cases c17 : a0 = (116 : Int32)
                                  · have hf := mt_ifT c17 hf
                                    refine lv_tableIn (off := 105) (tgt := 106) hx hb dX7_digitsBehind_1 (by rw [c17]; decide) (by rw [c17]; decide) (by rw [c17]; rfl) (by decide) ?_
                                    refine lv_iconst (v := 3) hx hb dX7_digitsBehind_106 (by decide) ?_
                                    have i1 := mt_so1 hf
                                    subst i1
                                    exact mt_iret hx hb hr hI hH hS hlocks dX7_digitsBehind_107
                                  · have hf := mt_ifF c17 hf
                                    by_cases c18 : a0 = (117 : Int32)
                                    · have hf := mt_ifT c18 hf
                                      refine lv_tableIn (off := 107) (tgt := 108) hx hb dX7_digitsBehind_1 (by rw [c18]; decide) (by rw [c18]; decide) (by rw [c18]; rfl) (by decide) ?_
                                      refine lv_iconst (v := (-1)) hx hb dX7_digitsBehind_108 (by decide) ?_
                                      have i1 := mt_so1 hf
                                      subst i1
                                      exact mt_iret hx hb hr hI hH hS hlocks dX7_digitsBehind_109
                                    · have hf := mt_ifF c18 hf
                                      by_cases c19 : a0 = (118 : Int32)
                                      · have hf := mt_ifT c19 hf
                                        refine lv_tableIn (off := 107) (tgt := 108) hx hb dX7_digitsBehind_1 (by rw [c19]; decide) (by rw [c19]; decide) (by rw [c19]; rfl) (by decide) ?_
                                        refine lv_iconst (v := (-1)) hx hb dX7_digitsBehind_108 (by decide) ?_
                                        have i1 := mt_so1 hf
                                        subst i1
                                        exact mt_iret hx hb hr hI hH hS hlocks dX7_digitsBehind_109
                                      · have hf := mt_ifF c19 hf
                                        by_cases c20 : a0 = (119 : Int32)
                                        · have hf := mt_ifT c20 hf
                                          refine lv_tableIn (off := 103) (tgt := 104) hx hb dX7_digitsBehind_1 (by rw [c20]; decide) (by rw [c20]; decide) (by rw [c20]; rfl) (by decide) ?_
                                          refine lv_iconst (v := 2) hx hb dX7_digitsBehind_104 (by decide) ?_
                                          have i1 := mt_so1 hf
                                          subst i1
                                          exact mt_iret hx hb hr hI hH hS hlocks dX7_digitsBehind_105
                                        · have hf := mt_ifF c20 hf
                                          by_cases c21 : a0 = (120 : Int32)
                                          · have hf := mt_ifT c21 hf
                                            refine lv_tableIn (off := 103) (tgt := 104) hx hb dX7_digitsBehind_1 (by rw [c21]; decide) (by rw [c21]; decide) (by rw [c21]; rfl) (by decide) ?_
                                            refine lv_iconst (v := 2) hx hb dX7_digitsBehind_104 (by decide) ?_
                                            have i1 := mt_so1 hf
                                            subst i1
                                            exact mt_iret hx hb hr hI hH hS hlocks dX7_digitsBehind_105
                                          · have hf := mt_ifF c21 hf
                                            refine lv_tableOut (tgt := 108) hx hb dX7_digitsBehind_1 (mt_tabOut (100) (120) (by decide) (by decide) (fun n hn => ?_)) (by decide) ?_
                                            · rcases (show n = 0 ∨ n = 1 ∨ n = 2 ∨ n = 3 ∨ n = 4 ∨ n = 5 ∨ n = 6 ∨ n = 7 ∨ n = 8 ∨ n = 9 ∨ n = 10 ∨ n = 11 ∨ n = 12 ∨ n = 13 ∨ n = 14 ∨ n = 15 ∨ n = 16 ∨ n = 17 ∨ n = 18 ∨ n = 19 ∨ n = 20 from by omega) with rfl | rfl | rfl | rfl | rfl | rfl | rfl | rfl | rfl | rfl | rfl | rfl | rfl | rfl | rfl | rfl | rfl | rfl | rfl | rfl | rfl
                                              · exact fun e9 => c1 (e9.trans (by decide))
                                              · exact fun e9 => c2 (e9.trans (by decide))
                                              · exact fun e9 => c3 (e9.trans (by decide))
                                              · exact fun e9 => c4 (e9.trans (by decide))
                                              · exact fun e9 => c5 (e9.trans (by decide))
                                              · exact fun e9 => c6 (e9.trans (by decide))
                                              · exact fun e9 => c7 (e9.trans (by decide))
                                              · exact fun e9 => c8 (e9.trans (by decide))
                                              · exact fun e9 => c9 (e9.trans (by decide))
                                              · exact fun e9 => c10 (e9.trans (by decide))
                                              · exact fun e9 => c11 (e9.trans (by decide))
                                              · exact fun e9 => c12 (e9.trans (by decide))
                                              · exact fun e9 => c13 (e9.trans (by decide))
                                              · exact fun e9 => c14 (e9.trans (by decide))
                                              · exact fun e9 => c15 (e9.trans (by decide))
                                              · exact fun e9 => c16 (e9.trans (by decide))
                                              · exact fun e9 => c17 (e9.trans (by decide))
                                              · exact fun e9 => c18 (e9.trans (by decide))
                                              · exact fun e9 => c19 (e9.trans (by decide))
                                              · exact fun e9 => c20 (e9.trans (by decide))
                                              · exact fun e9 => c21 (e9.trans (by decide))
                                            · refine lv_iconst (v := (-1)) hx hb dX7_digitsBehind_108 (by decide) ?_
                                              have i1 := mt_so1 hf
                                              subst i1
                                              exact mt_iret hx hb hr hI hH hS hlocks dX7_digitsBehind_109
set_option maxHeartbeats 4000000 in
set_option maxRecDepth 100000 in
theorem c_X7_digitAt (l : Launch) (E : mt_E) (a1 : Int32) (M : mt_M) (u : mt_U) (r : Int32) (hf : f_X7_digitAt a1 M = some (r)) : Met l yX7_digitAt wsX7_digitAt ({ frames := 1, cells := 0, slots := 0, locals := 21 } : Room) (mt_P E [.ref (E.2.1 145), .int a1] M u) (mt_Qi E r M u) 0 0 (mt_A E) := by
  refine Met.ofW (cc := cX7_digitAt) (maxL := 3) (ret := (some .int)) (by decide) rfl ?_
  intro p e s mid args below meth c0 s₁ B hml hv
  obtain ⟨rfl, hI, hH⟩ := hv
  have hx := B.exec
  have hb := B.bytes
  have hr := B.returns
  have hts := atoms_spec (ws := wsX7_digitAt) B.pre
  have hown : s.vm.findClass RX7 = some mid.cls := findClass_of_methodNamed B.named
  have hlocks := B.notSynchronized
  have hS : va_S (mt_A E) s.heap s.heap [] := va_S.rf
  have hl := lv_entry ([.ref (E.2.1 145), .int a1]) (n := 3) (Nat.le_of_ble_eq_true rfl)
  rw [lg_entry_eq]
  generalize (lg_sl ([.ref (E.2.1 145), .int a1]) ++ List.replicate (3 - (lg_sl ([.ref (E.2.1 145), .int a1])).length) Slot.unset).toArray = ls at hl ⊢
  have hl : lv_has ls 3 [(0, .ref (E.2.1 145)), (1, .int a1)] := hl
  unfold f_X7_digitAt at hf
  refine lv_aload_n hx hb dX7_digitAt_0 rfl (lv_at hl 0 rfl) ?_
  refine lv_iload_n hx hb dX7_digitAt_1 rfl (lv_at hl 1 rfl) ?_
  refine mt_b1I hf (fun r2 hg1 hf => ?_)
  refine mt_goi (mt_runV (i := 145) (As := [.int a1]) (rest := []) ⟨hx, hb, hml, hown, hts⟩ hI hH (c_X7_letterAt l E a1 M u _ hg1) (cwV 1 hts gX7_digitAt_X7_letterAt rfl rfl rfl (by decide +kernel) ⟨Nat.le_of_ble_eq_true rfl, Nat.le_of_ble_eq_true rfl⟩) mt_T145 rfl rfl hl.1 rfl (Nat.le_of_ble_eq_true rfl) dX7_digitAt_2 ⟨Nat.zero_le _, Nat.zero_le _⟩) hS (fun H locs hH hS => ?_)
  refine lv_istore_n (lv' := [(2, .int r2), (0, .ref (E.2.1 145)), (1, .int a1)]) hx hb dX7_digitAt_5 rfl hl (by decide) rfl (fun ls hl => ?_)
  refine lv_iload_n hx hb dX7_digitAt_6 rfl (lv_at hl 0 rfl) ?_
  refine lv_bipush (v := 48) hx hb dX7_digitAt_7 (by decide) ?_
  refine lv_icmp_lt (tgt := 25) hx hb dX7_digitAt_9 (by decide) (fun c3 => ?_) (fun c3 => ?_)
  · have hf := mt_ifT c3 hf
    refine lv_iconst (v := (-1)) hx hb dX7_digitAt_25 (by decide) ?_
    have i1 := mt_so1 hf
    subst i1
    exact mt_iret hx hb hr hI hH hS hlocks dX7_digitAt_26
  · have hf := mt_ifF c3 hf
    refine lv_iload_n hx hb dX7_digitAt_12 rfl (lv_at hl 0 rfl) ?_
    refine lv_bipush (v := 57) hx hb dX7_digitAt_13 (by decide) ?_
    refine lv_icmp_gt (tgt := 25) hx hb dX7_digitAt_15 (by decide) (fun c4 => ?_) (fun c4 => ?_)
    · have hf := mt_ifT c4 hf
      refine lv_iconst (v := (-1)) hx hb dX7_digitAt_25 (by decide) ?_
      have i1 := mt_so1 hf
      subst i1
      exact mt_iret hx hb hr hI hH hS hlocks dX7_digitAt_26
    · have hf := mt_ifF c4 hf
      refine lv_iload_n hx hb dX7_digitAt_18 rfl (lv_at hl 0 rfl) ?_
      refine lv_bipush (v := 48) hx hb dX7_digitAt_19 (by decide) ?_
      refine lv_isub hx hb dX7_digitAt_21 ?_
      refine lv_goto (tgt := 26) hx hb dX7_digitAt_22 (by decide) ?_
      have i1 := mt_so1 hf
      subst i1
      exact mt_iret hx hb hr hI hH hS hlocks dX7_digitAt_26
set_option maxHeartbeats 4000000 in
set_option maxRecDepth 100000 in
theorem c_X7_strayBehind (l : Launch) (E : mt_E) (a1 : Int32) (M : mt_M) (u : mt_U) (r : Int32) (hf : f_X7_strayBehind a1 M = some (r)) : Met l yX7_strayBehind wsX7_strayBehind ({ frames := 2, cells := 0, slots := 0, locals := 43 } : Room) (mt_P E [.ref (E.2.1 145), .int a1] M u) (mt_Qi E r M u) 0 0 (mt_A E) := by
  refine Met.ofW (cc := cX7_strayBehind) (maxL := 4) (ret := (some .int)) (by decide) rfl ?_
  intro p e s mid args below meth c0 s₁ B hml hv
  obtain ⟨rfl, hI, hH⟩ := hv
  have hx := B.exec
  have hb := B.bytes
  have hr := B.returns
  have hts := atoms_spec (ws := wsX7_strayBehind) B.pre
  have hown : s.vm.findClass RX7 = some mid.cls := findClass_of_methodNamed B.named
  have hlocks := B.notSynchronized
  have hS : va_S (mt_A E) s.heap s.heap [] := va_S.rf
  have hl := lv_entry ([.ref (E.2.1 145), .int a1]) (n := 4) (Nat.le_of_ble_eq_true rfl)
  rw [lg_entry_eq]
  generalize (lg_sl ([.ref (E.2.1 145), .int a1]) ++ List.replicate (4 - (lg_sl ([.ref (E.2.1 145), .int a1])).length) Slot.unset).toArray = ls at hl ⊢
  have hl : lv_has ls 4 [(0, .ref (E.2.1 145)), (1, .int a1)] := hl
  unfold f_X7_strayBehind at hf
  refine lv_aload_n hx hb dX7_strayBehind_0 rfl (lv_at hl 0 rfl) ?_
  refine lv_iload_n hx hb dX7_strayBehind_1 rfl (lv_at hl 1 rfl) ?_
  refine mt_b1I hf (fun r2 hg1 hf => ?_)
  refine mt_goi (mt_runV (i := 145) (As := [.int a1]) (rest := []) ⟨hx, hb, hml, hown, hts⟩ hI hH (c_X7_letterAt l E a1 M u _ hg1) (cwV 1 hts gX7_strayBehind_X7_letterAt rfl rfl rfl (by decide +kernel) ⟨Nat.le_of_ble_eq_true rfl, Nat.le_of_ble_eq_true rfl⟩) mt_T145 rfl rfl hl.1 rfl (Nat.le_of_ble_eq_true rfl) dX7_strayBehind_2 ⟨Nat.zero_le _, Nat.zero_le _⟩) hS (fun H locs hH hS => ?_)
  refine mt_b1I hf (fun r4 hg3 hf => ?_)
  refine mt_goi (mt_runS (As := [.int r2]) (rest := []) ⟨hx, hb, hml, hown, hts⟩ hI hH (c_X7_digitsBehind l E r2 M u _ hg3) (va_cwS 1 hts gX7_strayBehind_X7_digitsBehind rfl rfl rfl (by decide +kernel) ⟨Nat.le_of_ble_eq_true rfl, Nat.le_of_ble_eq_true rfl⟩) rfl hl.1 rfl (Nat.le_of_ble_eq_true rfl) dX7_strayBehind_5 ⟨Nat.zero_le _, Nat.zero_le _⟩) hS (fun H locs hH hS => ?_)
  refine lv_istore_n (lv' := [(2, .int r4), (0, .ref (E.2.1 145)), (1, .int a1)]) hx hb dX7_strayBehind_8 rfl hl (by decide) rfl (fun ls hl => ?_)
  refine lv_iload_n hx hb dX7_strayBehind_9 rfl (lv_at hl 0 rfl) ?_
  refine lv_iconst (v := (-1)) hx hb dX7_strayBehind_10 (by decide) ?_
  refine lv_icmp_ne (tgt := 16) hx hb dX7_strayBehind_11 (by decide) (fun c5 => ?_) (fun c5 => ?_)
  · have hf := mt_ifF c5 hf
    refine lv_iconst (v := 1) hx hb dX7_strayBehind_16 (by decide) ?_
    refine lv_istore_n (lv' := [(3, .int (1 : Int32)), (2, .int r4), (0, .ref (E.2.1 145)), (1, .int a1)]) hx hb dX7_strayBehind_17 rfl hl (by decide) rfl (fun ls hl => ?_)
    refine mt_lpI1 hf (fun (x6 : Int32) => ∀ (H : Heap) (locs : List Loc) (ls : Array Slot), mt_H E M u H → va_S (mt_A E) s.heap H locs → lv_has ls 4 [(0, .ref (E.2.1 145)), (1, .int a1), (2, .int r4), (3, .int x6)] → W p l e (headSpec wsX7_strayBehind ({ frames := 2, cells := 0, slots := 0, locals := 43 } : Room)).room s mid (([.ref (E.2.1 145), .int a1] : List Value).toArray) below meth c0 H locs 0 0 (MQ below (mt_Qi E r M u) (([.ref (E.2.1 145), .int a1] : List Value).toArray) s 0 0 (mt_A E)) (F0 mid 18 ls [])) ?_ _ _ _ hH hS (lv_sub hl [2, 3, 1, 0] rfl)
    intro k7 ih8 x6 hf H locs ls hH hS hl
    refine lv_iload_n hx hb dX7_strayBehind_18 rfl (lv_at hl 3 rfl) ?_
    refine lv_iload_n hx hb dX7_strayBehind_19 rfl (lv_at hl 2 rfl) ?_
    refine lv_icmp_gt (tgt := 44) hx hb dX7_strayBehind_20 (by decide) (fun c9 => ?_) (fun c9 => ?_)
    · have hf := mt_ifT c9 hf
      refine lv_iload_n hx hb dX7_strayBehind_44 rfl (lv_at hl 1 rfl) ?_
      refine lv_iload_n hx hb dX7_strayBehind_45 rfl (lv_at hl 2 rfl) ?_
      refine lv_iadd hx hb dX7_strayBehind_46 ?_
      refine lv_iconst (v := 1) hx hb dX7_strayBehind_47 (by decide) ?_
      refine lv_iadd hx hb dX7_strayBehind_48 ?_
      refine mt_lti hf (fun x10 ex10 hf => ?_)
      refine lv_istore_n (lv' := [(3, .int x10), (0, .ref (E.2.1 145)), (1, .int a1), (2, .int r4)]) hx hb dX7_strayBehind_49 rfl hl (by decide) rfl (fun ls hl => ?_)
      refine lv_aload_n hx hb dX7_strayBehind_50 rfl (lv_at hl 1 rfl) ?_
      refine lv_iload_n hx hb dX7_strayBehind_51 rfl (lv_at hl 0 rfl) ?_
      refine mt_b1I hf (fun r12 hg11 hf => ?_)
      refine mt_goi (mt_runV (i := 145) (As := [.int x10]) (rest := []) ⟨hx, hb, hml, hown, hts⟩ hI hH (c_X7_letterAt l E x10 M u _ hg11) (cwV 1 hts gX7_strayBehind_X7_letterAt rfl rfl rfl (by decide +kernel) ⟨Nat.le_of_ble_eq_true rfl, Nat.le_of_ble_eq_true rfl⟩) mt_T145 rfl rfl hl.1 rfl (Nat.le_of_ble_eq_true rfl) dX7_strayBehind_52 ⟨Nat.zero_le _, Nat.zero_le _⟩) hS (fun H locs hH hS => ?_)
      refine lv_bipush (v := 59) hx hb dX7_strayBehind_55 (by decide) ?_
      refine lv_icmp_ne (tgt := 64) hx hb dX7_strayBehind_57 (by decide) (fun c13 => ?_) (fun c13 => ?_)
      · have hf := mt_ifF c13 hf
        refine lv_iload_n hx hb dX7_strayBehind_64 rfl (lv_at hl 0 rfl) ?_
        have i1 := mt_so1 hf
        subst i1
        exact mt_iret hx hb hr hI hH hS hlocks dX7_strayBehind_65
      · have hf := mt_ifT c13 hf
        refine lv_iconst (v := (-1)) hx hb dX7_strayBehind_60 (by decide) ?_
        refine lv_goto (tgt := 65) hx hb dX7_strayBehind_61 (by decide) ?_
        have i1 := mt_so1 hf
        subst i1
        exact mt_iret hx hb hr hI hH hS hlocks dX7_strayBehind_65
    · have hf := mt_ifF c9 hf
      refine lv_aload_n hx hb dX7_strayBehind_23 rfl (lv_at hl 0 rfl) ?_
      refine lv_iload_n hx hb dX7_strayBehind_24 rfl (lv_at hl 1 rfl) ?_
      refine lv_iload_n hx hb dX7_strayBehind_25 rfl (lv_at hl 3 rfl) ?_
      refine lv_iadd hx hb dX7_strayBehind_26 ?_
      refine mt_b1I hf (fun r15 hg14 hf => ?_)
      refine mt_goi (mt_runV (i := 145) (As := [.int (a1 + x6)]) (rest := []) ⟨hx, hb, hml, hown, hts⟩ hI hH (c_X7_digitAt l E (a1 + x6) M u _ hg14) (cwV 1 hts gX7_strayBehind_X7_digitAt rfl rfl rfl (by decide +kernel) ⟨Nat.le_of_ble_eq_true rfl, Nat.le_of_ble_eq_true rfl⟩) mt_T145 rfl rfl hl.1 rfl (Nat.le_of_ble_eq_true rfl) dX7_strayBehind_27 ⟨Nat.zero_le _, Nat.zero_le _⟩) hS (fun H locs hH hS => ?_)
      refine lv_iconst (v := (-1)) hx hb dX7_strayBehind_30 (by decide) ?_
      refine lv_icmp_ne (tgt := 38) hx hb dX7_strayBehind_31 (by decide) (fun c16 => ?_) (fun c16 => ?_)
      · have hf := mt_ifF c16 hf
        refine mt_ltI hf (fun x17 ex17 hf => ?_)
        refine lv_iinc (v := x17) (lv' := [(3, .int x17), (0, .ref (E.2.1 145)), (1, .int a1), (2, .int r4)]) hx hb dX7_strayBehind_38 hl (k := 3) rfl (by rw [ex17]; rfl) (by decide) rfl (fun ls hl => ?_)
        refine lv_goto (tgt := 18) hx hb dX7_strayBehind_41 (by decide) ?_
        exact ih8 x17 hf _ _ _ hH hS (lv_sub hl [1, 2, 3, 0] rfl)
      · have hf := mt_ifT c16 hf
        refine lv_iload_n hx hb dX7_strayBehind_34 rfl (lv_at hl 1 rfl) ?_
        refine lv_iload_n hx hb dX7_strayBehind_35 rfl (lv_at hl 3 rfl) ?_
        refine lv_iadd hx hb dX7_strayBehind_36 ?_
        have i1 := mt_so1 hf
        subst i1
        exact mt_iret hx hb hr hI hH hS hlocks dX7_strayBehind_37
  · have hf := mt_ifT c5 hf
    refine lv_iload_n hx hb dX7_strayBehind_14 rfl (lv_at hl 2 rfl) ?_
    have i1 := mt_so1 hf
    subst i1
    exact mt_iret hx hb hr hI hH hS hlocks dX7_strayBehind_15
set_option maxHeartbeats 4000000 in
set_option maxRecDepth 100000 in
theorem c_X7_firstStray (l : Launch) (E : mt_E)  (M : mt_M) (u : mt_U) (r : Int32) (hf : f_X7_firstStray M = some (r)) : Met l yX7_firstStray wsX7_firstStray ({ frames := 3, cells := 0, slots := 0, locals := 66 } : Room) (mt_P E [.ref (E.2.1 145)] M u) (mt_Qi E r M u) 0 0 (mt_A E) := by
  refine Met.ofW (cc := cX7_firstStray) (maxL := 3) (ret := (some .int)) (by decide) rfl ?_
  intro p e s mid args below meth c0 s₁ B hml hv
  obtain ⟨rfl, hI, hH⟩ := hv
  have hx := B.exec
  have hb := B.bytes
  have hr := B.returns
  have hts := atoms_spec (ws := wsX7_firstStray) B.pre
  have hown : s.vm.findClass RX7 = some mid.cls := findClass_of_methodNamed B.named
  have hlocks := B.notSynchronized
  have hS : va_S (mt_A E) s.heap s.heap [] := va_S.rf
  have hl := lv_entry ([.ref (E.2.1 145)]) (n := 3) (Nat.le_of_ble_eq_true rfl)
  rw [lg_entry_eq]
  generalize (lg_sl ([.ref (E.2.1 145)]) ++ List.replicate (3 - (lg_sl ([.ref (E.2.1 145)])).length) Slot.unset).toArray = ls at hl ⊢
  have hl : lv_has ls 3 [(0, .ref (E.2.1 145))] := hl
  unfold f_X7_firstStray at hf
  have kw0 := hts (.fieldLink RX7 15 "MilkTwice$Letters" "length" "I") (List.mem_of_getElem? (i := 1) rfl)
  have hinX7 : ∀ w ∈ u_ws RX7 TX7 2, w ∈ wsX7_firstStray := fun w h => List.mem_cons_of_mem _ (List.mem_append_right _ h)
  refine lv_iconst (v := 0) hx hb dX7_firstStray_0 (by decide) ?_
  refine lv_istore_n (lv' := [(1, .int (0 : Int32)), (0, .ref (E.2.1 145))]) hx hb dX7_firstStray_1 rfl hl (by decide) rfl (fun ls hl => ?_)
  refine mt_lpI1 hf (fun (x1 : Int32) => ∀ (H : Heap) (locs : List Loc) (ls : Array Slot), mt_H E M u H → va_S (mt_A E) s.heap H locs → lv_has ls 3 [(0, .ref (E.2.1 145)), (1, .int x1)] → W p l e (headSpec wsX7_firstStray ({ frames := 3, cells := 0, slots := 0, locals := 66 } : Room)).room s mid (([.ref (E.2.1 145)] : List Value).toArray) below meth c0 H locs 0 0 (MQ below (mt_Qi E r M u) (([.ref (E.2.1 145)] : List Value).toArray) s 0 0 (mt_A E)) (F0 mid 2 ls [])) ?_ _ _ _ hH hS (lv_sub hl [1, 0] rfl)
  intro k2 ih3 x1 hf H locs ls hH hS hl
  refine lv_iload_n hx hb dX7_firstStray_2 rfl (lv_at hl 1 rfl) ?_
  refine mt_jn0 hf (∀ (H : Heap) (locs : List Loc) (ls : Array Slot), mt_H E M u H → va_S (mt_A E) s.heap H locs → lv_has ls 3 [(0, .ref (E.2.1 145)), (1, .int x1)] → W p l e (headSpec wsX7_firstStray ({ frames := 3, cells := 0, slots := 0, locals := 66 } : Room)).room s mid (([.ref (E.2.1 145)] : List Value).toArray) below meth c0 H locs 0 0 (MQ below (mt_Qi E r M u) (([.ref (E.2.1 145)] : List Value).toArray) s 0 0 (mt_A E)) (F0 mid 14 ls [])) ?_ ?_
  · intro hf H locs ls hH hS hl
    refine lv_aload_n hx hb dX7_firstStray_14 rfl (lv_at hl 0 rfl) ?_
    refine lv_iload_n hx hb dX7_firstStray_15 rfl (lv_at hl 1 rfl) ?_
    refine mt_b1I hf (fun r7 hg6 hf => ?_)
    refine mt_goi (mt_runV (i := 145) (As := [.int x1]) (rest := []) ⟨hx, hb, hml, hown, hts⟩ hI hH (c_X7_strayBehind l E x1 M u _ hg6) (cwV 1 hts gX7_firstStray_X7_strayBehind rfl rfl rfl (by decide +kernel) ⟨Nat.le_of_ble_eq_true rfl, Nat.le_of_ble_eq_true rfl⟩) mt_T145 rfl rfl hl.1 rfl (Nat.le_of_ble_eq_true rfl) dX7_firstStray_16 ⟨Nat.zero_le _, Nat.zero_le _⟩) hS (fun H locs hH hS => ?_)
    refine lv_istore_n (lv' := [(2, .int r7), (0, .ref (E.2.1 145)), (1, .int x1)]) hx hb dX7_firstStray_19 rfl hl (by decide) rfl (fun ls hl => ?_)
    refine lv_iload_n hx hb dX7_firstStray_20 rfl (lv_at hl 0 rfl) ?_
    refine lv_if_lt (tgt := 26) hx hb dX7_firstStray_21 (by decide) (fun c8 => ?_) (fun c8 => ?_)
    · have hf := mt_ifT c8 hf
      refine lv_iload_n hx hb dX7_firstStray_26 rfl (lv_at hl 2 rfl) ?_
      refine lv_aload_n hx hb dX7_firstStray_27 rfl (lv_at hl 1 rfl) ?_
      refine lv_iload_n hx hb dX7_firstStray_28 rfl (lv_at hl 2 rfl) ?_
      refine mt_b1I hf (fun r10 hg9 hf => ?_)
      refine mt_goi (mt_runV (i := 145) (As := [.int x1]) (rest := [.int x1]) ⟨hx, hb, hml, hown, hts⟩ hI hH (c_X7_letterAt l E x1 M u _ hg9) (cwV 1 hts gX7_firstStray_X7_letterAt rfl rfl rfl (by decide +kernel) ⟨Nat.le_of_ble_eq_true rfl, Nat.le_of_ble_eq_true rfl⟩) mt_T145 rfl rfl hl.1 rfl (Nat.le_of_ble_eq_true rfl) dX7_firstStray_29 ⟨Nat.zero_le _, Nat.zero_le _⟩) hS (fun H locs hH hS => ?_)
      refine mt_b1I hf (fun r12 hg11 hf => ?_)
      refine mt_goi (mt_runS (As := [.int r10]) (rest := [.int x1]) ⟨hx, hb, hml, hown, hts⟩ hI hH (c_X7_digitsBehind l E r10 M u _ hg11) (va_cwS 1 hts gX7_firstStray_X7_digitsBehind rfl rfl rfl (by decide +kernel) ⟨Nat.le_of_ble_eq_true rfl, Nat.le_of_ble_eq_true rfl⟩) rfl hl.1 rfl (Nat.le_of_ble_eq_true rfl) dX7_firstStray_32 ⟨Nat.zero_le _, Nat.zero_le _⟩) hS (fun H locs hH hS => ?_)
      refine lv_iconst (v := 2) hx hb dX7_firstStray_35 (by decide) ?_
      refine lv_iadd hx hb dX7_firstStray_36 ?_
      refine lv_iadd hx hb dX7_firstStray_37 ?_
      refine mt_lti hf (fun x13 ex13 hf => ?_)
      refine lv_istore_n (lv' := [(1, .int x13), (2, .int r7), (0, .ref (E.2.1 145))]) hx hb dX7_firstStray_38 rfl hl (by decide) rfl (fun ls hl => ?_)
      refine lv_goto (tgt := 2) hx hb dX7_firstStray_39 (by decide) ?_
      exact ih3 x13 hf _ _ _ hH hS (lv_sub hl [2, 0] rfl)
    · have hf := mt_ifF c8 hf
      refine lv_iload_n hx hb dX7_firstStray_24 rfl (lv_at hl 0 rfl) ?_
      have i1 := mt_so1 hf
      subst i1
      exact mt_iret hx hb hr hI hH hS hlocks dX7_firstStray_25
  · intro j4 hj5 hf
    refine lv_if_eq (tgt := 14) hx hb dX7_firstStray_3 (by decide) (fun c14 => ?_) (fun c14 => ?_)
    · have hf := mt_ifT c14 hf
      exact hj5 hf _ _ _ hH hS (lv_sub hl [0, 1] rfl)
    · have hf := mt_ifF c14 hf
      refine lv_iload_n hx hb dX7_firstStray_6 rfl (lv_at hl 1 rfl) ?_
      refine lv_aload_n hx hb dX7_firstStray_7 rfl (lv_at hl 0 rfl) ?_
      refine mt_geti (C := RX7) (T := TX7) (N := 2) hx hb hts hinX7 hown hI hH mt_T145 rfl 1 (by decide) kw0 rfl rfl dX7_firstStray_8 ?_
      refine lv_icmp_ge (tgt := 42) hx hb dX7_firstStray_11 (by decide) (fun c15 => ?_) (fun c15 => ?_)
      · have hf := mt_ifT c15 hf
        refine lv_iconst (v := (-1)) hx hb dX7_firstStray_42 (by decide) ?_
        have i1 := mt_so1 hf
        subst i1
        exact mt_iret hx hb hr hI hH hS hlocks dX7_firstStray_43
      · have hf := mt_ifF c15 hf
        exact hj5 hf _ _ _ hH hS (lv_sub hl [0, 1] rfl)
set_option maxHeartbeats 4000000 in
set_option maxRecDepth 100000 in
theorem c_X7_comesTrue (l : Launch) (E : mt_E) (o1 : Nat) (hh1 : mt_hou o1) (a2 : Int32) (M : mt_M) (u : mt_U) (r : Int32) (M' : mt_M) (hf : f_X7_comesTrue o1 a2 M = some (r, M')) : Met l yX7_comesTrue wsX7_comesTrue ({ frames := 4, cells := 0, slots := 0, locals := 95 } : Room) (mt_P E [.ref (E.2.1 145), .ref (E.2.1 o1), .int a2] M u) (mt_Qi E r M' u) 0 0 (mt_A E) := by
  refine Met.ofW (cc := cX7_comesTrue) (maxL := 4) (ret := (some .boolean)) (by decide) rfl ?_
  intro p e s mid args below meth c0 s₁ B hml hv
  obtain ⟨rfl, hI, hH⟩ := hv
  have hx := B.exec
  have hb := B.bytes
  have hr := B.returns
  have hts := atoms_spec (ws := wsX7_comesTrue) B.pre
  have hown : s.vm.findClass RX7 = some mid.cls := findClass_of_methodNamed B.named
  have hlocks := B.notSynchronized
  have hS : va_S (mt_A E) s.heap s.heap [] := va_S.rf
  have hl := lv_entry ([.ref (E.2.1 145), .ref (E.2.1 o1), .int a2]) (n := 4) (Nat.le_of_ble_eq_true rfl)
  rw [lg_entry_eq]
  generalize (lg_sl ([.ref (E.2.1 145), .ref (E.2.1 o1), .int a2]) ++ List.replicate (4 - (lg_sl ([.ref (E.2.1 145), .ref (E.2.1 o1), .int a2])).length) Slot.unset).toArray = ls at hl ⊢
  have hl : lv_has ls 4 [(0, .ref (E.2.1 145)), (1, .ref (E.2.1 o1)), (2, .int a2)] := hl
  unfold f_X7_comesTrue at hf
  have kw0 := hts (.initialized RX11) (List.mem_of_getElem? (i := 30) rfl)
  have kw1 := hts (.static yX11_isOneOf) (List.mem_of_getElem? (i := 29) rfl)
  have hinX4 : ∀ w ∈ u_ws RX4 TX4 6, w ∈ wsX7_comesTrue := fun w h => List.mem_cons_of_mem _ (List.mem_append_left _ (List.mem_append_left _ (List.mem_append_right _ h)))
  refine lv_aload_n hx hb dX7_comesTrue_0 rfl (lv_at hl 0 rfl) ?_
  refine lv_iload_n hx hb dX7_comesTrue_1 rfl (lv_at hl 2 rfl) ?_
  refine lv_iconst (v := 1) hx hb dX7_comesTrue_2 (by decide) ?_
  refine lv_iadd hx hb dX7_comesTrue_3 ?_
  refine mt_b1I hf (fun r2 hg1 hf => ?_)
  refine mt_goi (mt_runV (i := 145) (As := [.int (a2 + (1 : Int32))]) (rest := []) ⟨hx, hb, hml, hown, hts⟩ hI hH (c_X7_digitAt l E (a2 + (1 : Int32)) M u _ hg1) (cwV 1 hts gX7_comesTrue_X7_digitAt rfl rfl rfl (by decide +kernel) ⟨Nat.le_of_ble_eq_true rfl, Nat.le_of_ble_eq_true rfl⟩) mt_T145 rfl rfl hl.1 rfl (Nat.le_of_ble_eq_true rfl) dX7_comesTrue_4 ⟨Nat.zero_le _, Nat.zero_le _⟩) hS (fun H locs hH hS => ?_)
  refine lv_istore_n (lv' := [(3, .int r2), (0, .ref (E.2.1 145)), (1, .ref (E.2.1 o1)), (2, .int a2)]) hx hb dX7_comesTrue_7 rfl hl (by decide) rfl (fun ls hl => ?_)
  refine lv_aload_n hx hb dX7_comesTrue_8 rfl (lv_at hl 1 rfl) ?_
  refine lv_iload_n hx hb dX7_comesTrue_9 rfl (lv_at hl 3 rfl) ?_
  refine mt_b1I hf (fun r4 hg3 hf => ?_)
  refine mt_goi (mt_runV (i := 145) (As := [.int a2]) (rest := []) ⟨hx, hb, hml, hown, hts⟩ hI hH (c_X7_letterAt l E a2 M u _ hg3) (cwV 1 hts gX7_comesTrue_X7_letterAt rfl rfl rfl (by decide +kernel) ⟨Nat.le_of_ble_eq_true rfl, Nat.le_of_ble_eq_true rfl⟩) mt_T145 rfl rfl hl.1 rfl (Nat.le_of_ble_eq_true rfl) dX7_comesTrue_10 ⟨Nat.zero_le _, Nat.zero_le _⟩) hS (fun H locs hH hS => ?_)
  by_cases c5 : r4 = (100 : Int32)
  · have hf := mt_ifT c5 hf
    refine lv_lookup (off := 128) (tgt := 141) hx hb dX7_comesTrue_13 (by decide) (by rw [c5]; rfl) (by decide) ?_
    refine lv_aload_n hx hb dX7_comesTrue_141 rfl (lv_at hl 2 rfl) ?_
    refine lv_iload_n hx hb dX7_comesTrue_142 rfl (lv_at hl 0 rfl) ?_
    refine mt_b2I hf (fun r7 M8 hg6 hf => ?_)
    refine mt_goi (mt_runV (i := o1) (As := [.int r2]) (rest := []) ⟨hx, hb, hml, hown, hts⟩ hI hH (c_X4_liveDays l E o1 hh1 r2 M u _ _ hg6) (cwV 1 hts gX7_comesTrue_X4_liveDays rfl rfl rfl (by decide +kernel) ⟨Nat.le_of_ble_eq_true rfl, Nat.le_of_ble_eq_true rfl⟩) (mt_T_hou hh1) rfl rfl hl.1 rfl (Nat.le_of_ble_eq_true rfl) dX7_comesTrue_143 ⟨Nat.zero_le _, Nat.zero_le _⟩) hS (fun H locs hH hS => ?_)
    refine lv_pop hx hb dX7_comesTrue_146 rfl ?_
    refine lv_aload_n hx hb dX7_comesTrue_147 rfl (lv_at hl 2 rfl) ?_
    refine mt_getiN (C := RX4) (T := TX4) (N := 6) hx hb hts hinX4 hown hI hH (mt_T_hou hh1) rfl 4 (by decide) (List.mem_of_getElem? (i := 13) rfl) rfl rfl dX7_comesTrue_148 ?_
    refine lv_sipush (v := 999) hx hb dX7_comesTrue_151 (by decide) ?_
    refine lv_icmp_gt (tgt := 161) hx hb dX7_comesTrue_154 (by decide) (fun c9 => ?_) (fun c9 => ?_)
    · have hf := mt_ifT c9 hf
      refine lv_iconst (v := 0) hx hb dX7_comesTrue_161 (by decide) ?_
      obtain ⟨i1, i2⟩ := mt_so2 hf
      subst i1
      subst i2
      exact mt_zret hx hb hr hI hH hS (by decide) hlocks dX7_comesTrue_162
    · have hf := mt_ifF c9 hf
      refine lv_iconst (v := 1) hx hb dX7_comesTrue_157 (by decide) ?_
      refine lv_goto (tgt := 162) hx hb dX7_comesTrue_158 (by decide) ?_
      obtain ⟨i1, i2⟩ := mt_so2 hf
      subst i1
      subst i2
      exact mt_zret hx hb hr hI hH hS (by decide) hlocks dX7_comesTrue_162
  · have hf := mt_ifF c5 hf
    by_cases c10 : r4 = (106 : Int32)
    · have hf := mt_ifT c10 hf
      refine lv_lookup (off := 150) (tgt := 163) hx hb dX7_comesTrue_13 (by decide) (by rw [c10]; rfl) (by decide) ?_
      refine lv_aload_n hx hb dX7_comesTrue_163 rfl (lv_at hl 2 rfl) ?_
      refine mt_b2I hf (fun r12 M13 hg11 hf => ?_)
      refine mt_goi (mt_runV (i := o1) (As := []) (rest := []) ⟨hx, hb, hml, hown, hts⟩ hI hH (c_X4_joinLists l E o1 hh1 M u _ _ hg11) (cwV 0 hts gX7_comesTrue_X4_joinLists rfl rfl rfl (by decide +kernel) ⟨Nat.le_of_ble_eq_true rfl, Nat.le_of_ble_eq_true rfl⟩) (mt_T_hou hh1) rfl rfl hl.1 rfl (Nat.le_of_ble_eq_true rfl) dX7_comesTrue_164 ⟨Nat.zero_le _, Nat.zero_le _⟩) hS (fun H locs hH hS => ?_)
      refine lv_pop hx hb dX7_comesTrue_167 rfl ?_
      refine lv_iconst (v := 1) hx hb dX7_comesTrue_168 (by decide) ?_
      obtain ⟨i1, i2⟩ := mt_so2 hf
      subst i1
      subst i2
      exact mt_zret hx hb hr hI hH hS (by decide) hlocks dX7_comesTrue_169
    · have hf := mt_ifF c10 hf
      by_cases c14 : r4 = (114 : Int32)
      · have hf := mt_ifT c14 hf
        refine lv_lookup (off := 117) (tgt := 130) hx hb dX7_comesTrue_13 (by decide) (by rw [c14]; rfl) (by decide) ?_
        refine lv_aload_n hx hb dX7_comesTrue_130 rfl (lv_at hl 2 rfl) ?_
        refine lv_iload_n hx hb dX7_comesTrue_131 rfl (lv_at hl 0 rfl) ?_
        refine mt_putiN (ty := .int) (C := RX4) (T := TX4) (N := 6) hx hb hts hinX4 tyX4 tyX4_ok nmX4 hown hI hH hS (mt_T_hou hh1) rfl 5 (by decide) (List.mem_of_getElem? (i := 16) rfl) rfl rfl (by decide +kernel) rfl rfl rfl dX7_comesTrue_132 (fun H locs hH hS => ?_)
        refine mt_ltI hf (fun M15 eM15 hf => ?_)
        rw [← eM15] at hH
        refine lv_iload_n hx hb dX7_comesTrue_135 rfl (lv_at hl 0 rfl) ?_
        refine lv_iconst (v := 3) hx hb dX7_comesTrue_136 (by decide) ?_
        refine mt_b1I hf (fun r17 hg16 hf => ?_)
        refine mt_goi (mt_runSN (As := [.int r2, .int (3 : Int32)]) (rest := []) ⟨hx, hb, hml, hown, hts⟩ hI hH (c_X11_isOneOf l E r2 (3 : Int32) M15 u _ hg16) ⟨va_cnB 2 hts gX7_comesTrue_X11_isOneOf_n71 rfl rfl rfl (hI.2.2.1 _ (List.mem_of_getElem? (i := 14) rfl)) kw0 (by decide +kernel) ⟨Nat.le_of_ble_eq_true rfl, Nat.le_of_ble_eq_true rfl⟩, kw1, trivial⟩ rfl hl.1 rfl (Nat.le_of_ble_eq_true rfl) dX7_comesTrue_137 ⟨Nat.zero_le _, Nat.zero_le _⟩) hS (fun H locs hH hS => ?_)
        refine mt_ckI hf (fun q18 hf => ?_)
        obtain ⟨i1, i2⟩ := mt_so2 hf
        subst i1
        subst i2
        exact mt_zret hx hb hr hI hH hS q18 hlocks dX7_comesTrue_140
      · have hf := mt_ifF c14 hf
        by_cases c19 : r4 = (115 : Int32)
        · have hf := mt_ifT c19 hf
          refine lv_lookup (off := 82) (tgt := 95) hx hb dX7_comesTrue_13 (by decide) (by rw [c19]; rfl) (by decide) ?_
          refine lv_aload_n hx hb dX7_comesTrue_95 rfl (lv_at hl 2 rfl) ?_
          refine mt_getrN (C := RX4) (T := TX4) (N := 6) hx hb hts hinX4 hown hI hH (mt_T_hou hh1) rfl 0 (by decide) (List.mem_of_getElem? (i := 11) rfl) rfl rfl dX7_comesTrue_96 ?_
          refine lv_iload_n hx hb dX7_comesTrue_99 rfl (lv_at hl 0 rfl) ?_
          refine lv_bipush (v := 10) hx hb dX7_comesTrue_100 (by decide) ?_
          refine lv_aload_n hx hb dX7_comesTrue_102 rfl (lv_at hl 1 rfl) ?_
          refine lv_iload_n hx hb dX7_comesTrue_103 rfl (lv_at hl 3 rfl) ?_
          refine lv_iconst (v := 2) hx hb dX7_comesTrue_104 (by decide) ?_
          refine lv_iadd hx hb dX7_comesTrue_105 ?_
          refine mt_b1I hf (fun r21 hg20 hf => ?_)
          refine mt_goi (mt_runV (i := 145) (As := [.int (a2 + (2 : Int32))]) (rest := [.int (10 : Int32), .int r2, .ref (E.2.1 (o1 + 3))]) ⟨hx, hb, hml, hown, hts⟩ hI hH (c_X7_digitAt l E (a2 + (2 : Int32)) M u _ hg20) (cwV 1 hts gX7_comesTrue_X7_digitAt rfl rfl rfl (by decide +kernel) ⟨Nat.le_of_ble_eq_true rfl, Nat.le_of_ble_eq_true rfl⟩) mt_T145 rfl rfl hl.1 rfl (Nat.le_of_ble_eq_true rfl) dX7_comesTrue_106 ⟨Nat.zero_le _, Nat.zero_le _⟩) hS (fun H locs hH hS => ?_)
          refine lv_imul hx hb dX7_comesTrue_109 ?_
          refine lv_aload_n hx hb dX7_comesTrue_110 rfl (lv_at hl 1 rfl) ?_
          refine lv_iload_n hx hb dX7_comesTrue_111 rfl (lv_at hl 3 rfl) ?_
          refine lv_iconst (v := 3) hx hb dX7_comesTrue_112 (by decide) ?_
          refine lv_iadd hx hb dX7_comesTrue_113 ?_
          refine mt_b1I hf (fun r23 hg22 hf => ?_)
          refine mt_goi (mt_runV (i := 145) (As := [.int (a2 + (3 : Int32))]) (rest := [.int ((10 : Int32) * r21), .int r2, .ref (E.2.1 (o1 + 3))]) ⟨hx, hb, hml, hown, hts⟩ hI hH (c_X7_digitAt l E (a2 + (3 : Int32)) M u _ hg22) (cwV 1 hts gX7_comesTrue_X7_digitAt rfl rfl rfl (by decide +kernel) ⟨Nat.le_of_ble_eq_true rfl, Nat.le_of_ble_eq_true rfl⟩) mt_T145 rfl rfl hl.1 rfl (Nat.le_of_ble_eq_true rfl) dX7_comesTrue_114 ⟨Nat.zero_le _, Nat.zero_le _⟩) hS (fun H locs hH hS => ?_)
          refine lv_iadd hx hb dX7_comesTrue_117 ?_
          refine mt_b1I hf (fun M25 hg24 hf => ?_)
          refine mt_gov (mt_runV (i := (o1 + 3)) (As := [.int r2, .int (((10 : Int32) * r21) + r23)]) (rest := []) ⟨hx, hb, hml, hown, hts⟩ hI hH (c_X0_putStock l E (o1 + 3) (mt_hou_cup hh1) r2 (((10 : Int32) * r21) + r23) M u _ hg24) (cwV 2 hts gX7_comesTrue_X0_putStock rfl rfl rfl (by decide +kernel) ⟨Nat.le_of_ble_eq_true rfl, Nat.le_of_ble_eq_true rfl⟩) (mt_T_cup (mt_hou_cup hh1)) rfl rfl hl.1 rfl (Nat.le_of_ble_eq_true rfl) dX7_comesTrue_118 ⟨Nat.zero_le _, Nat.zero_le _⟩) hS (fun H locs hH hS => ?_)
          refine lv_aload_n hx hb dX7_comesTrue_121 rfl (lv_at hl 2 rfl) ?_
          refine mt_getrN (C := RX4) (T := TX4) (N := 6) hx hb hts hinX4 hown hI hH (mt_T_hou hh1) rfl 0 (by decide) (List.mem_of_getElem? (i := 11) rfl) rfl rfl dX7_comesTrue_122 ?_
          refine lv_iload_n hx hb dX7_comesTrue_125 rfl (lv_at hl 0 rfl) ?_
          refine mt_b1I hf (fun r27 hg26 hf => ?_)
          refine mt_goi (mt_runV (i := (o1 + 3)) (As := [.int r2]) (rest := []) ⟨hx, hb, hml, hown, hts⟩ hI hH (c_X0_has l E (o1 + 3) (mt_hou_cup hh1) r2 M25 u _ hg26) (cwV 1 hts gX7_comesTrue_X0_has rfl rfl rfl (by decide +kernel) ⟨Nat.le_of_ble_eq_true rfl, Nat.le_of_ble_eq_true rfl⟩) (mt_T_cup (mt_hou_cup hh1)) rfl rfl hl.1 rfl (Nat.le_of_ble_eq_true rfl) dX7_comesTrue_126 ⟨Nat.zero_le _, Nat.zero_le _⟩) hS (fun H locs hH hS => ?_)
          refine mt_ckI hf (fun q28 hf => ?_)
          obtain ⟨i1, i2⟩ := mt_so2 hf
          subst i1
          subst i2
          exact mt_zret hx hb hr hI hH hS q28 hlocks dX7_comesTrue_129
        · have hf := mt_ifF c19 hf
          by_cases c29 : r4 = (116 : Int32)
          · have hf := mt_ifT c29 hf
            refine lv_lookup (off := 51) (tgt := 64) hx hb dX7_comesTrue_13 (by decide) (by rw [c29]; rfl) (by decide) ?_
            refine lv_aload_n hx hb dX7_comesTrue_64 rfl (lv_at hl 2 rfl) ?_
            refine mt_getrN (C := RX4) (T := TX4) (N := 6) hx hb hts hinX4 hown hI hH (mt_T_hou hh1) rfl 0 (by decide) (List.mem_of_getElem? (i := 11) rfl) rfl rfl dX7_comesTrue_65 ?_
            refine lv_iload_n hx hb dX7_comesTrue_68 rfl (lv_at hl 0 rfl) ?_
            refine lv_aload_n hx hb dX7_comesTrue_69 rfl (lv_at hl 1 rfl) ?_
            refine lv_iload_n hx hb dX7_comesTrue_70 rfl (lv_at hl 3 rfl) ?_
            refine lv_iconst (v := 2) hx hb dX7_comesTrue_71 (by decide) ?_
            refine lv_iadd hx hb dX7_comesTrue_72 ?_
            refine mt_b1I hf (fun r31 hg30 hf => ?_)
            refine mt_goi (mt_runV (i := 145) (As := [.int (a2 + (2 : Int32))]) (rest := [.int r2, .ref (E.2.1 (o1 + 3))]) ⟨hx, hb, hml, hown, hts⟩ hI hH (c_X7_digitAt l E (a2 + (2 : Int32)) M u _ hg30) (cwV 1 hts gX7_comesTrue_X7_digitAt rfl rfl rfl (by decide +kernel) ⟨Nat.le_of_ble_eq_true rfl, Nat.le_of_ble_eq_true rfl⟩) mt_T145 rfl rfl hl.1 rfl (Nat.le_of_ble_eq_true rfl) dX7_comesTrue_73 ⟨Nat.zero_le _, Nat.zero_le _⟩) hS (fun H locs hH hS => ?_)
            refine lv_aload_n hx hb dX7_comesTrue_76 rfl (lv_at hl 1 rfl) ?_
            refine lv_iload_n hx hb dX7_comesTrue_77 rfl (lv_at hl 3 rfl) ?_
            refine lv_iconst (v := 3) hx hb dX7_comesTrue_78 (by decide) ?_
            refine lv_iadd hx hb dX7_comesTrue_79 ?_
            refine mt_b1I hf (fun r33 hg32 hf => ?_)
            refine mt_goi (mt_runV (i := 145) (As := [.int (a2 + (3 : Int32))]) (rest := [.int r31, .int r2, .ref (E.2.1 (o1 + 3))]) ⟨hx, hb, hml, hown, hts⟩ hI hH (c_X7_digitAt l E (a2 + (3 : Int32)) M u _ hg32) (cwV 1 hts gX7_comesTrue_X7_digitAt rfl rfl rfl (by decide +kernel) ⟨Nat.le_of_ble_eq_true rfl, Nat.le_of_ble_eq_true rfl⟩) mt_T145 rfl rfl hl.1 rfl (Nat.le_of_ble_eq_true rfl) dX7_comesTrue_80 ⟨Nat.zero_le _, Nat.zero_le _⟩) hS (fun H locs hH hS => ?_)
            refine mt_b2I hf (fun r35 M36 hg34 hf => ?_)
            refine mt_goi (mt_runV (i := (o1 + 3)) (As := [.int r2, .int r31, .int r33]) (rest := []) ⟨hx, hb, hml, hown, hts⟩ hI hH (c_X0_add l E (o1 + 3) (mt_hou_cup hh1) r2 r31 r33 M u _ _ hg34) (cwV 3 hts gX7_comesTrue_X0_add rfl rfl rfl (by decide +kernel) ⟨Nat.le_of_ble_eq_true rfl, Nat.le_of_ble_eq_true rfl⟩) (mt_T_cup (mt_hou_cup hh1)) rfl rfl hl.1 rfl (Nat.le_of_ble_eq_true rfl) dX7_comesTrue_83 ⟨Nat.zero_le _, Nat.zero_le _⟩) hS (fun H locs hH hS => ?_)
            refine lv_if_lt (tgt := 93) hx hb dX7_comesTrue_86 (by decide) (fun c37 => ?_) (fun c37 => ?_)
            · have hf := mt_ifT c37 hf
              refine lv_iconst (v := 0) hx hb dX7_comesTrue_93 (by decide) ?_
              obtain ⟨i1, i2⟩ := mt_so2 hf
              subst i1
              subst i2
              exact mt_zret hx hb hr hI hH hS (by decide) hlocks dX7_comesTrue_94
            · have hf := mt_ifF c37 hf
              refine lv_iconst (v := 1) hx hb dX7_comesTrue_89 (by decide) ?_
              refine lv_goto (tgt := 94) hx hb dX7_comesTrue_90 (by decide) ?_
              obtain ⟨i1, i2⟩ := mt_so2 hf
              subst i1
              subst i2
              exact mt_zret hx hb hr hI hH hS (by decide) hlocks dX7_comesTrue_94
          · have hf := mt_ifF c29 hf
            refine lv_lookup (off := 157) (tgt := 170) hx hb dX7_comesTrue_13 (by decide) (by have e90 := mt_ne (k := 100) (by decide) c5; have e91 := mt_ne (k := 106) (by decide) c10; have e92 := mt_ne (k := 114) (by decide) c14; have e93 := mt_ne (k := 115) (by decide) c19; have e94 := mt_ne (k := 116) (by decide) c29; simp [Op.lookupswitch.offset, e90, e91, e92, e93, e94]) (by decide) ?_
            refine lv_aload_n hx hb dX7_comesTrue_170 rfl (lv_at hl 2 rfl) ?_
            refine lv_iload_n hx hb dX7_comesTrue_171 rfl (lv_at hl 0 rfl) ?_
            refine lv_aload_n hx hb dX7_comesTrue_172 rfl (lv_at hl 1 rfl) ?_
            refine lv_iload_n hx hb dX7_comesTrue_173 rfl (lv_at hl 3 rfl) ?_
            refine lv_iconst (v := 2) hx hb dX7_comesTrue_174 (by decide) ?_
            refine lv_iadd hx hb dX7_comesTrue_175 ?_
            refine mt_b1I hf (fun r39 hg38 hf => ?_)
            refine mt_goi (mt_runV (i := 145) (As := [.int (a2 + (2 : Int32))]) (rest := [.int r2, .ref (E.2.1 o1)]) ⟨hx, hb, hml, hown, hts⟩ hI hH (c_X7_digitAt l E (a2 + (2 : Int32)) M u _ hg38) (cwV 1 hts gX7_comesTrue_X7_digitAt rfl rfl rfl (by decide +kernel) ⟨Nat.le_of_ble_eq_true rfl, Nat.le_of_ble_eq_true rfl⟩) mt_T145 rfl rfl hl.1 rfl (Nat.le_of_ble_eq_true rfl) dX7_comesTrue_176 ⟨Nat.zero_le _, Nat.zero_le _⟩) hS (fun H locs hH hS => ?_)
            refine lv_aload_n hx hb dX7_comesTrue_179 rfl (lv_at hl 1 rfl) ?_
            refine lv_iload_n hx hb dX7_comesTrue_180 rfl (lv_at hl 3 rfl) ?_
            refine mt_b1I hf (fun r41 hg40 hf => ?_)
            refine mt_goi (mt_runV (i := 145) (As := [.int a2]) (rest := [.int r39, .int r2, .ref (E.2.1 o1)]) ⟨hx, hb, hml, hown, hts⟩ hI hH (c_X7_letterAt l E a2 M u _ hg40) (cwV 1 hts gX7_comesTrue_X7_letterAt rfl rfl rfl (by decide +kernel) ⟨Nat.le_of_ble_eq_true rfl, Nat.le_of_ble_eq_true rfl⟩) mt_T145 rfl rfl hl.1 rfl (Nat.le_of_ble_eq_true rfl) dX7_comesTrue_181 ⟨Nat.zero_le _, Nat.zero_le _⟩) hS (fun H locs hH hS => ?_)
            refine mt_b2I hf (fun r43 M44 hg42 hf => ?_)
            refine mt_goi (mt_runV (i := o1) (As := [.int r2, .int r39, .int r41]) (rest := []) ⟨hx, hb, hml, hown, hts⟩ hI hH (c_X4_markLine l E o1 hh1 r2 r39 r41 M u _ _ hg42) (cwV 3 hts gX7_comesTrue_X4_markLine rfl rfl rfl (by decide +kernel) ⟨Nat.le_of_ble_eq_true rfl, Nat.le_of_ble_eq_true rfl⟩) (mt_T_hou hh1) rfl rfl hl.1 rfl (Nat.le_of_ble_eq_true rfl) dX7_comesTrue_184 ⟨Nat.zero_le _, Nat.zero_le _⟩) hS (fun H locs hH hS => ?_)
            refine lv_if_ne (tgt := 194) hx hb dX7_comesTrue_187 (by decide) (fun c45 => ?_) (fun c45 => ?_)
            · have hf := mt_ifF c45 hf
              refine lv_iconst (v := 0) hx hb dX7_comesTrue_194 (by decide) ?_
              obtain ⟨i1, i2⟩ := mt_so2 hf
              subst i1
              subst i2
              exact mt_zret hx hb hr hI hH hS (by decide) hlocks dX7_comesTrue_195
            · have hf := mt_ifT c45 hf
              refine lv_iconst (v := 1) hx hb dX7_comesTrue_190 (by decide) ?_
              refine lv_goto (tgt := 195) hx hb dX7_comesTrue_191 (by decide) ?_
              obtain ⟨i1, i2⟩ := mt_so2 hf
              subst i1
              subst i2
              exact mt_zret hx hb hr hI hH hS (by decide) hlocks dX7_comesTrue_195
set_option maxHeartbeats 4000000 in
set_option maxRecDepth 100000 in
theorem c_X7_tell (l : Launch) (E : mt_E) (o1 : Nat) (hh1 : mt_hou o1) (o2 : Nat) (hh2 : mt_hou o2) (M : mt_M) (u : mt_U) (r : Int32) (M' : mt_M) (hf : f_X7_tell o1 o2 M = some (r, M')) : Met l yX7_tell wsX7_tell ({ frames := 5, cells := 0, slots := 0, locals := 118 } : Room) (mt_P E [.ref (E.2.1 145), .ref (E.2.1 o1), .ref (E.2.1 o2)] M u) (mt_Qi E r M' u) 0 0 (mt_A E) := by
  refine Met.ofW (cc := cX7_tell) (maxL := 6) (ret := (some .int)) (by decide) rfl ?_
  intro p e s mid args below meth c0 s₁ B hml hv
  obtain ⟨rfl, hI, hH⟩ := hv
  have hx := B.exec
  have hb := B.bytes
  have hr := B.returns
  have hts := atoms_spec (ws := wsX7_tell) B.pre
  have hown : s.vm.findClass RX7 = some mid.cls := findClass_of_methodNamed B.named
  have hlocks := B.notSynchronized
  have hS : va_S (mt_A E) s.heap s.heap [] := va_S.rf
  have hl := lv_entry ([.ref (E.2.1 145), .ref (E.2.1 o1), .ref (E.2.1 o2)]) (n := 6) (Nat.le_of_ble_eq_true rfl)
  rw [lg_entry_eq]
  generalize (lg_sl ([.ref (E.2.1 145), .ref (E.2.1 o1), .ref (E.2.1 o2)]) ++ List.replicate (6 - (lg_sl ([.ref (E.2.1 145), .ref (E.2.1 o1), .ref (E.2.1 o2)])).length) Slot.unset).toArray = ls at hl ⊢
  have hl : lv_has ls 6 [(0, .ref (E.2.1 145)), (1, .ref (E.2.1 o1)), (2, .ref (E.2.1 o2))] := hl
  unfold f_X7_tell at hf
  have kw0 := hts (.fieldLink RX7 15 "MilkTwice$Letters" "length" "I") (List.mem_of_getElem? (i := 1) rfl)
  have hinX7 : ∀ w ∈ u_ws RX7 TX7 2, w ∈ wsX7_tell := fun w h => List.mem_cons_of_mem _ (List.mem_append_left _ (List.mem_append_left _ (List.mem_append_right _ h)))
  refine lv_aload_n hx hb dX7_tell_0 rfl (lv_at hl 0 rfl) ?_
  refine mt_b1I hf (fun r2 hg1 hf => ?_)
  refine mt_goi (mt_runV (i := 145) (As := []) (rest := []) ⟨hx, hb, hml, hown, hts⟩ hI hH (c_X7_firstStray l E M u _ hg1) (cwV 0 hts gX7_tell_X7_firstStray rfl rfl rfl (by decide +kernel) ⟨Nat.le_of_ble_eq_true rfl, Nat.le_of_ble_eq_true rfl⟩) mt_T145 rfl rfl hl.1 rfl (Nat.le_of_ble_eq_true rfl) dX7_tell_1 ⟨Nat.zero_le _, Nat.zero_le _⟩) hS (fun H locs hH hS => ?_)
  refine lv_istore_n (lv' := [(3, .int r2), (0, .ref (E.2.1 145)), (1, .ref (E.2.1 o1)), (2, .ref (E.2.1 o2))]) hx hb dX7_tell_4 rfl hl (by decide) rfl (fun ls hl => ?_)
  refine lv_iload_n hx hb dX7_tell_5 rfl (lv_at hl 0 rfl) ?_
  refine lv_if_lt (tgt := 15) hx hb dX7_tell_6 (by decide) (fun c3 => ?_) (fun c3 => ?_)
  · have hf := mt_ifT c3 hf
    refine lv_aload_n hx hb dX7_tell_15 rfl (lv_at hl 3 rfl) ?_
    refine lv_aload_n hx hb dX7_tell_16 rfl (lv_at hl 2 rfl) ?_
    refine mt_b1I hf (fun M5 hg4 hf => ?_)
    refine mt_gov (mt_runV (i := o2) (As := [.ref (E.2.1 o1)]) (rest := []) ⟨hx, hb, hml, hown, hts⟩ hI hH (c_X4_become l E o2 hh2 o1 hh1 M u _ hg4) (cwV 1 hts gX7_tell_X4_become rfl rfl rfl (by decide +kernel) ⟨Nat.le_of_ble_eq_true rfl, Nat.le_of_ble_eq_true rfl⟩) (mt_T_hou hh2) rfl rfl hl.1 rfl (Nat.le_of_ble_eq_true rfl) dX7_tell_17 ⟨Nat.zero_le _, Nat.zero_le _⟩) hS (fun H locs hH hS => ?_)
    refine lv_iconst (v := 0) hx hb dX7_tell_20 (by decide) ?_
    refine lv_istore (lv' := [(4, .int (0 : Int32)), (3, .int r2), (0, .ref (E.2.1 145)), (1, .ref (E.2.1 o1)), (2, .ref (E.2.1 o2))]) hx hb dX7_tell_21 hl (by decide) rfl (fun ls hl => ?_)
    refine lv_iconst (v := 0) hx hb dX7_tell_23 (by decide) ?_
    refine lv_istore (lv' := [(5, .int (0 : Int32)), (4, .int (0 : Int32)), (3, .int r2), (0, .ref (E.2.1 145)), (1, .ref (E.2.1 o1)), (2, .ref (E.2.1 o2))]) hx hb dX7_tell_24 hl (by decide) rfl (fun ls hl => ?_)
    refine mt_lpI3 hf (fun (x6 : Int32) (x7 : Int32) (M8 : mt_M) => ∀ (H : Heap) (locs : List Loc) (ls : Array Slot), mt_H E M8 u H → va_S (mt_A E) s.heap H locs → lv_has ls 6 [(0, .ref (E.2.1 145)), (2, .ref (E.2.1 o2)), (4, .int x6), (5, .int x7)] → W p l e (headSpec wsX7_tell ({ frames := 5, cells := 0, slots := 0, locals := 118 } : Room)).room s mid (([.ref (E.2.1 145), .ref (E.2.1 o1), .ref (E.2.1 o2)] : List Value).toArray) below meth c0 H locs 0 0 (MQ below (mt_Qi E r M' u) (([.ref (E.2.1 145), .ref (E.2.1 o1), .ref (E.2.1 o2)] : List Value).toArray) s 0 0 (mt_A E)) (F0 mid 26 ls [])) ?_ _ _ _ hH hS (lv_sub hl [3, 5, 1, 0] rfl)
    intro k9 ih10 x6 x7 M8 hf H locs ls hH hS hl
    refine lv_iload hx hb dX7_tell_26 (lv_at hl 3 rfl) ?_
    refine lv_aload_n hx hb dX7_tell_28 rfl (lv_at hl 0 rfl) ?_
    refine mt_geti (C := RX7) (T := TX7) (N := 2) hx hb hts hinX7 hown hI hH mt_T145 rfl 1 (by decide) kw0 rfl rfl dX7_tell_29 ?_
    refine lv_icmp_ge (tgt := 74) hx hb dX7_tell_32 (by decide) (fun c11 => ?_) (fun c11 => ?_)
    · have hf := mt_ifT c11 hf
      refine lv_iload hx hb dX7_tell_74 (lv_at hl 2 rfl) ?_
      obtain ⟨i1, i2⟩ := mt_so2 hf
      subst i1
      subst i2
      exact mt_iret hx hb hr hI hH hS hlocks dX7_tell_76
    · have hf := mt_ifF c11 hf
      refine lv_aload_n hx hb dX7_tell_35 rfl (lv_at hl 0 rfl) ?_
      refine lv_aload_n hx hb dX7_tell_36 rfl (lv_at hl 1 rfl) ?_
      refine lv_iload hx hb dX7_tell_37 (lv_at hl 3 rfl) ?_
      refine mt_b2I hf (fun r13 M14 hg12 hf => ?_)
      refine mt_goi (mt_runV (i := 145) (As := [.ref (E.2.1 o2), .int x7]) (rest := []) ⟨hx, hb, hml, hown, hts⟩ hI hH (c_X7_comesTrue l E o2 hh2 x7 M8 u _ _ hg12) (cwV 2 hts gX7_tell_X7_comesTrue rfl rfl rfl (by decide +kernel) ⟨Nat.le_of_ble_eq_true rfl, Nat.le_of_ble_eq_true rfl⟩) mt_T145 rfl rfl hl.1 rfl (Nat.le_of_ble_eq_true rfl) dX7_tell_39 ⟨Nat.zero_le _, Nat.zero_le _⟩) hS (fun H locs hH hS => ?_)
      refine lv_if_ne (tgt := 52) hx hb dX7_tell_42 (by decide) (fun c15 => ?_) (fun c15 => ?_)
      · have hf := mt_ifF c15 hf
        refine mt_ltI hf (fun x16 ex16 hf => ?_)
        refine lv_iinc (v := x16) (lv' := [(4, .int x16), (0, .ref (E.2.1 145)), (2, .ref (E.2.1 o2)), (5, .int x7)]) hx hb dX7_tell_52 hl (k := 2) rfl (by rw [ex16]; rfl) (by decide) rfl (fun ls hl => ?_)
        refine lv_iload hx hb dX7_tell_55 (lv_at hl 3 rfl) ?_
        refine lv_aload_n hx hb dX7_tell_57 rfl (lv_at hl 1 rfl) ?_
        refine lv_iload hx hb dX7_tell_58 (lv_at hl 3 rfl) ?_
        refine mt_b1I hf (fun r18 hg17 hf => ?_)
        refine mt_goi (mt_runV (i := 145) (As := [.int x7]) (rest := [.int x7]) ⟨hx, hb, hml, hown, hts⟩ hI hH (c_X7_letterAt l E x7 M14 u _ hg17) (cwV 1 hts gX7_tell_X7_letterAt rfl rfl rfl (by decide +kernel) ⟨Nat.le_of_ble_eq_true rfl, Nat.le_of_ble_eq_true rfl⟩) mt_T145 rfl rfl hl.1 rfl (Nat.le_of_ble_eq_true rfl) dX7_tell_60 ⟨Nat.zero_le _, Nat.zero_le _⟩) hS (fun H locs hH hS => ?_)
        refine mt_b1I hf (fun r20 hg19 hf => ?_)
        refine mt_goi (mt_runS (As := [.int r18]) (rest := [.int x7]) ⟨hx, hb, hml, hown, hts⟩ hI hH (c_X7_digitsBehind l E r18 M14 u _ hg19) (va_cwS 1 hts gX7_tell_X7_digitsBehind rfl rfl rfl (by decide +kernel) ⟨Nat.le_of_ble_eq_true rfl, Nat.le_of_ble_eq_true rfl⟩) rfl hl.1 rfl (Nat.le_of_ble_eq_true rfl) dX7_tell_63 ⟨Nat.zero_le _, Nat.zero_le _⟩) hS (fun H locs hH hS => ?_)
        refine lv_iconst (v := 2) hx hb dX7_tell_66 (by decide) ?_
        refine lv_iadd hx hb dX7_tell_67 ?_
        refine lv_iadd hx hb dX7_tell_68 ?_
        refine mt_lti hf (fun x21 ex21 hf => ?_)
        refine lv_istore (lv' := [(5, .int x21), (4, .int x16), (0, .ref (E.2.1 145)), (2, .ref (E.2.1 o2))]) hx hb dX7_tell_69 hl (by decide) rfl (fun ls hl => ?_)
        refine lv_goto (tgt := 26) hx hb dX7_tell_71 (by decide) ?_
        exact ih10 x16 x21 M14 hf _ _ _ hH hS (lv_sub hl [2, 3, 1, 0] rfl)
      · have hf := mt_ifT c15 hf
        refine lv_sipush (v := (-2000)) hx hb dX7_tell_45 (by decide) ?_
        refine lv_iload hx hb dX7_tell_48 (lv_at hl 3 rfl) ?_
        refine lv_isub hx hb dX7_tell_50 ?_
        obtain ⟨i1, i2⟩ := mt_so2 hf
        subst i1
        subst i2
        exact mt_iret hx hb hr hI hH hS hlocks dX7_tell_51
  · have hf := mt_ifF c3 hf
    refine lv_sipush (v := (-1000)) hx hb dX7_tell_9 (by decide) ?_
    refine lv_iload_n hx hb dX7_tell_12 rfl (lv_at hl 0 rfl) ?_
    refine lv_isub hx hb dX7_tell_13 ?_
    obtain ⟨i1, i2⟩ := mt_so2 hf
    subst i1
    subst i2
    exact mt_iret hx hb hr hI hH hS hlocks dX7_tell_14
set_option maxHeartbeats 4000000 in
set_option maxRecDepth 100000 in
theorem c_X8_begin (l : Launch) (E : mt_E)  (M : mt_M) (u : mt_U) (M' : mt_M) (hf : f_X8_begin M = some (M')) : Met l yX8_begin wsX8_begin ({ frames := 2, cells := 0, slots := 0, locals := 47 } : Room) (mt_P E [.ref (E.2.1 133)] M u) (mt_Qv E M' u) 0 0 (mt_A E) := by
  refine Met.ofW (cc := cX8_begin) (maxL := 1) (ret := none) (by decide) rfl ?_
  intro p e s mid args below meth c0 s₁ B hml hv
  obtain ⟨rfl, hI, hH⟩ := hv
  have hx := B.exec
  have hb := B.bytes
  have hr := B.returns
  have hts := atoms_spec (ws := wsX8_begin) B.pre
  have hown : s.vm.findClass RX8 = some mid.cls := findClass_of_methodNamed B.named
  have hlocks := B.notSynchronized
  have hS : va_S (mt_A E) s.heap s.heap [] := va_S.rf
  have hl := lv_entry ([.ref (E.2.1 133)]) (n := 1) (Nat.le_of_ble_eq_true rfl)
  rw [lg_entry_eq]
  generalize (lg_sl ([.ref (E.2.1 133)]) ++ List.replicate (1 - (lg_sl ([.ref (E.2.1 133)])).length) Slot.unset).toArray = ls at hl ⊢
  have hl : lv_has ls 1 [(0, .ref (E.2.1 133))] := hl
  unfold f_X8_begin at hf
  have kw0 := hts (.fieldLink RX8 30 "MilkTwice$Mind" "shelf" "LMilkTwice$Cupboard;") (List.mem_of_getElem? (i := 1) rfl)
  have kw1 := hts (.fieldLink RX8 21 "MilkTwice$Mind" "house" "LMilkTwice$House;") (List.mem_of_getElem? (i := 2) rfl)
  have hinX8 : ∀ w ∈ u_ws RX8 TX8 5, w ∈ wsX8_begin := fun w h => List.mem_cons_of_mem _ (List.mem_append_left _ (List.mem_append_left _ (List.mem_append_right _ h)))
  have hinX4 : ∀ w ∈ u_ws RX4 TX4 6, w ∈ wsX8_begin := fun w h => List.mem_cons_of_mem _ (List.mem_append_left _ (List.mem_append_right _ h))
  refine lv_aload_n hx hb dX8_begin_0 rfl (lv_at hl 0 rfl) ?_
  refine mt_getr (C := RX8) (T := TX8) (N := 5) hx hb hts hinX8 hown hI hH mt_T133 rfl 1 (by decide) kw0 rfl rfl dX8_begin_1 ?_
  refine lv_aload_n hx hb dX8_begin_4 rfl (lv_at hl 0 rfl) ?_
  refine mt_getr (C := RX8) (T := TX8) (N := 5) hx hb hts hinX8 hown hI hH mt_T133 rfl 0 (by decide) kw1 rfl rfl dX8_begin_5 ?_
  refine mt_getrN (C := RX4) (T := TX4) (N := 6) hx hb hts hinX4 hown hI hH mt_T10 rfl 0 (by decide) (List.mem_of_getElem? (i := 9) rfl) rfl rfl dX8_begin_8 ?_
  refine mt_b1I hf (fun M2 hg1 hf => ?_)
  refine mt_gov (mt_runV (i := 137) (As := [.ref (E.2.1 13)]) (rest := []) ⟨hx, hb, hml, hown, hts⟩ hI hH (c_X0_become l E 137 (by decide) 13 (by decide) M u _ hg1) (cwV 1 hts gX8_begin_X0_become rfl rfl rfl (by decide +kernel) ⟨Nat.le_of_ble_eq_true rfl, Nat.le_of_ble_eq_true rfl⟩) mt_T137 rfl rfl hl.1 rfl (Nat.le_of_ble_eq_true rfl) dX8_begin_11 ⟨Nat.zero_le _, Nat.zero_le _⟩) hS (fun H locs hH hS => ?_)
  refine lv_aload_n hx hb dX8_begin_14 rfl (lv_at hl 0 rfl) ?_
  refine mt_getr (C := RX8) (T := TX8) (N := 5) hx hb hts hinX8 hown hI hH mt_T133 rfl 1 (by decide) kw0 rfl rfl dX8_begin_15 ?_
  refine mt_b1I hf (fun M4 hg3 hf => ?_)
  refine mt_gov (mt_runV (i := 137) (As := []) (rest := []) ⟨hx, hb, hml, hown, hts⟩ hI hH (c_X0_forgetTallies l E 137 (by decide) M2 u _ hg3) (cwV 0 hts gX8_begin_X0_forgetTallies rfl rfl rfl (by decide +kernel) ⟨Nat.le_of_ble_eq_true rfl, Nat.le_of_ble_eq_true rfl⟩) mt_T137 rfl rfl hl.1 rfl (Nat.le_of_ble_eq_true rfl) dX8_begin_18 ⟨Nat.zero_le _, Nat.zero_le _⟩) hS (fun H locs hH hS => ?_)
  have i1 := mt_so1 hf
  subst i1
  exact mt_vret hx hb hr hI hH hS hlocks dX8_begin_21
set_option maxHeartbeats 4000000 in
set_option maxRecDepth 100000 in
theorem c_X8_liveDays (l : Launch) (E : mt_E) (a1 : Int32) (M : mt_M) (u : mt_U) (M' : mt_M) (hf : f_X8_liveDays a1 M = some (M')) : Met l yX8_liveDays wsX8_liveDays ({ frames := 3, cells := 0, slots := 0, locals := 68 } : Room) (mt_P E [.ref (E.2.1 133), .int a1] M u) (mt_Qv E M' u) 0 0 (mt_A E) := by
  refine Met.ofW (cc := cX8_liveDays) (maxL := 3) (ret := none) (by decide) rfl ?_
  intro p e s mid args below meth c0 s₁ B hml hv
  obtain ⟨rfl, hI, hH⟩ := hv
  have hx := B.exec
  have hb := B.bytes
  have hr := B.returns
  have hts := atoms_spec (ws := wsX8_liveDays) B.pre
  have hown : s.vm.findClass RX8 = some mid.cls := findClass_of_methodNamed B.named
  have hlocks := B.notSynchronized
  have hS : va_S (mt_A E) s.heap s.heap [] := va_S.rf
  have hl := lv_entry ([.ref (E.2.1 133), .int a1]) (n := 3) (Nat.le_of_ble_eq_true rfl)
  rw [lg_entry_eq]
  generalize (lg_sl ([.ref (E.2.1 133), .int a1]) ++ List.replicate (3 - (lg_sl ([.ref (E.2.1 133), .int a1])).length) Slot.unset).toArray = ls at hl ⊢
  have hl : lv_has ls 3 [(0, .ref (E.2.1 133)), (1, .int a1)] := hl
  unfold f_X8_liveDays at hf
  have kw0 := hts (.fieldLink RX8 30 "MilkTwice$Mind" "shelf" "LMilkTwice$Cupboard;") (List.mem_of_getElem? (i := 1) rfl)
  have hinX8 : ∀ w ∈ u_ws RX8 TX8 5, w ∈ wsX8_liveDays := fun w h => List.mem_cons_of_mem _ (List.mem_append_left _ (List.mem_append_right _ h))
  refine lv_iconst (v := 0) hx hb dX8_liveDays_0 (by decide) ?_
  refine lv_istore_n (lv' := [(2, .int (0 : Int32)), (0, .ref (E.2.1 133)), (1, .int a1)]) hx hb dX8_liveDays_1 rfl hl (by decide) rfl (fun ls hl => ?_)
  refine mt_lpI2 hf (fun (x1 : Int32) (M2 : mt_M) => ∀ (H : Heap) (locs : List Loc) (ls : Array Slot), mt_H E M2 u H → va_S (mt_A E) s.heap H locs → lv_has ls 3 [(0, .ref (E.2.1 133)), (1, .int a1), (2, .int x1)] → W p l e (headSpec wsX8_liveDays ({ frames := 3, cells := 0, slots := 0, locals := 68 } : Room)).room s mid (([.ref (E.2.1 133), .int a1] : List Value).toArray) below meth c0 H locs 0 0 (MQ below (mt_Qv E M' u) (([.ref (E.2.1 133), .int a1] : List Value).toArray) s 0 0 (mt_A E)) (F0 mid 2 ls [])) ?_ _ _ _ hH hS (lv_sub hl [1, 2, 0] rfl)
  intro k3 ih4 x1 M2 hf H locs ls hH hS hl
  refine lv_iload_n hx hb dX8_liveDays_2 rfl (lv_at hl 2 rfl) ?_
  refine lv_iload_n hx hb dX8_liveDays_3 rfl (lv_at hl 1 rfl) ?_
  refine lv_icmp_ge (tgt := 21) hx hb dX8_liveDays_4 (by decide) (fun c5 => ?_) (fun c5 => ?_)
  · have hf := mt_ifT c5 hf
    have i1 := mt_so1 hf
    subst i1
    exact mt_vret hx hb hr hI hH hS hlocks dX8_liveDays_21
  · have hf := mt_ifF c5 hf
    refine lv_aload_n hx hb dX8_liveDays_7 rfl (lv_at hl 0 rfl) ?_
    refine mt_getr (C := RX8) (T := TX8) (N := 5) hx hb hts hinX8 hown hI hH mt_T133 rfl 1 (by decide) kw0 rfl rfl dX8_liveDays_8 ?_
    refine mt_b2I hf (fun r7 M8 hg6 hf => ?_)
    refine mt_goi (mt_runV (i := 137) (As := []) (rest := []) ⟨hx, hb, hml, hown, hts⟩ hI hH (c_X0_liveDay l E 137 (by decide) M2 u _ _ hg6) (cwV 0 hts gX8_liveDays_X0_liveDay rfl rfl rfl (by decide +kernel) ⟨Nat.le_of_ble_eq_true rfl, Nat.le_of_ble_eq_true rfl⟩) mt_T137 rfl rfl hl.1 rfl (Nat.le_of_ble_eq_true rfl) dX8_liveDays_11 ⟨Nat.zero_le _, Nat.zero_le _⟩) hS (fun H locs hH hS => ?_)
    refine lv_pop hx hb dX8_liveDays_14 rfl ?_
    refine mt_ltI hf (fun x9 ex9 hf => ?_)
    refine lv_iinc (v := x9) (lv' := [(2, .int x9), (0, .ref (E.2.1 133)), (1, .int a1)]) hx hb dX8_liveDays_15 hl (k := 2) rfl (by rw [ex9]; rfl) (by decide) rfl (fun ls hl => ?_)
    refine lv_goto (tgt := 2) hx hb dX8_liveDays_18 (by decide) ?_
    exact ih4 x9 M8 hf _ _ _ hH hS (lv_sub hl [1, 2, 0] rfl)
set_option maxHeartbeats 4000000 in
set_option maxRecDepth 100000 in
theorem c_X8_liveDaysOf (l : Launch) (E : mt_E) (a1 : Int32) (a2 : Int32) (a3 : Int32) (M : mt_M) (u : mt_U) (M' : mt_M) (hf : f_X8_liveDaysOf a1 a2 a3 M = some (M')) : Met l yX8_liveDaysOf wsX8_liveDaysOf ({ frames := 3, cells := 0, slots := 0, locals := 67 } : Room) (mt_P E [.ref (E.2.1 133), .int a1, .int a2, .int a3] M u) (mt_Qv E M' u) 0 0 (mt_A E) := by
  refine Met.ofW (cc := cX8_liveDaysOf) (maxL := 5) (ret := none) (by decide) rfl ?_
  intro p e s mid args below meth c0 s₁ B hml hv
  obtain ⟨rfl, hI, hH⟩ := hv
  have hx := B.exec
  have hb := B.bytes
  have hr := B.returns
  have hts := atoms_spec (ws := wsX8_liveDaysOf) B.pre
  have hown : s.vm.findClass RX8 = some mid.cls := findClass_of_methodNamed B.named
  have hlocks := B.notSynchronized
  have hS : va_S (mt_A E) s.heap s.heap [] := va_S.rf
  have hl := lv_entry ([.ref (E.2.1 133), .int a1, .int a2, .int a3]) (n := 5) (Nat.le_of_ble_eq_true rfl)
  rw [lg_entry_eq]
  generalize (lg_sl ([.ref (E.2.1 133), .int a1, .int a2, .int a3]) ++ List.replicate (5 - (lg_sl ([.ref (E.2.1 133), .int a1, .int a2, .int a3])).length) Slot.unset).toArray = ls at hl ⊢
  have hl : lv_has ls 5 [(0, .ref (E.2.1 133)), (1, .int a1), (2, .int a2), (3, .int a3)] := hl
  unfold f_X8_liveDaysOf at hf
  have kw0 := hts (.fieldLink RX8 30 "MilkTwice$Mind" "shelf" "LMilkTwice$Cupboard;") (List.mem_of_getElem? (i := 1) rfl)
  have hinX8 : ∀ w ∈ u_ws RX8 TX8 5, w ∈ wsX8_liveDaysOf := fun w h => List.mem_cons_of_mem _ (List.mem_append_left _ (List.mem_append_left _ (List.mem_append_right _ h)))
  refine lv_aload_n hx hb dX8_liveDaysOf_0 rfl (lv_at hl 0 rfl) ?_
  refine mt_b1I hf (fun M2 hg1 hf => ?_)
  refine mt_gov (mt_runV (i := 133) (As := []) (rest := []) ⟨hx, hb, hml, hown, hts⟩ hI hH (c_X8_begin l E M u _ hg1) (cwV 0 hts gX8_liveDaysOf_X8_begin rfl rfl rfl (by decide +kernel) ⟨Nat.le_of_ble_eq_true rfl, Nat.le_of_ble_eq_true rfl⟩) mt_T133 rfl rfl hl.1 rfl (Nat.le_of_ble_eq_true rfl) dX8_liveDaysOf_1 ⟨Nat.zero_le _, Nat.zero_le _⟩) hS (fun H locs hH hS => ?_)
  refine lv_aload_n hx hb dX8_liveDaysOf_4 rfl (lv_at hl 0 rfl) ?_
  refine mt_getr (C := RX8) (T := TX8) (N := 5) hx hb hts hinX8 hown hI hH mt_T133 rfl 1 (by decide) kw0 rfl rfl dX8_liveDaysOf_5 ?_
  refine lv_iload_n hx hb dX8_liveDaysOf_8 rfl (lv_at hl 1 rfl) ?_
  refine lv_iload_n hx hb dX8_liveDaysOf_9 rfl (lv_at hl 2 rfl) ?_
  refine mt_b1I hf (fun M4 hg3 hf => ?_)
  refine mt_gov (mt_runV (i := 137) (As := [.int a1, .int a2]) (rest := []) ⟨hx, hb, hml, hown, hts⟩ hI hH (c_X0_putStock l E 137 (by decide) a1 a2 M2 u _ hg3) (cwV 2 hts gX8_liveDaysOf_X0_putStock rfl rfl rfl (by decide +kernel) ⟨Nat.le_of_ble_eq_true rfl, Nat.le_of_ble_eq_true rfl⟩) mt_T137 rfl rfl hl.1 rfl (Nat.le_of_ble_eq_true rfl) dX8_liveDaysOf_10 ⟨Nat.zero_le _, Nat.zero_le _⟩) hS (fun H locs hH hS => ?_)
  refine lv_iconst (v := 0) hx hb dX8_liveDaysOf_13 (by decide) ?_
  refine lv_istore (lv' := [(4, .int (0 : Int32)), (0, .ref (E.2.1 133)), (1, .int a1), (2, .int a2), (3, .int a3)]) hx hb dX8_liveDaysOf_14 hl (by decide) rfl (fun ls hl => ?_)
  refine mt_lpI2 hf (fun (x5 : Int32) (M6 : mt_M) => ∀ (H : Heap) (locs : List Loc) (ls : Array Slot), mt_H E M6 u H → va_S (mt_A E) s.heap H locs → lv_has ls 5 [(0, .ref (E.2.1 133)), (1, .int a1), (3, .int a3), (4, .int x5)] → W p l e (headSpec wsX8_liveDaysOf ({ frames := 3, cells := 0, slots := 0, locals := 67 } : Room)).room s mid (([.ref (E.2.1 133), .int a1, .int a2, .int a3] : List Value).toArray) below meth c0 H locs 0 0 (MQ below (mt_Qv E M' u) (([.ref (E.2.1 133), .int a1, .int a2, .int a3] : List Value).toArray) s 0 0 (mt_A E)) (F0 mid 16 ls [])) ?_ _ _ _ hH hS (lv_sub hl [1, 2, 4, 0] rfl)
  intro k7 ih8 x5 M6 hf H locs ls hH hS hl
  refine lv_iload hx hb dX8_liveDaysOf_16 (lv_at hl 3 rfl) ?_
  refine lv_iload_n hx hb dX8_liveDaysOf_18 rfl (lv_at hl 2 rfl) ?_
  refine lv_icmp_ge (tgt := 37) hx hb dX8_liveDaysOf_19 (by decide) (fun c9 => ?_) (fun c9 => ?_)
  · have hf := mt_ifT c9 hf
    have i1 := mt_so1 hf
    subst i1
    exact mt_vret hx hb hr hI hH hS hlocks dX8_liveDaysOf_37
  · have hf := mt_ifF c9 hf
    refine lv_aload_n hx hb dX8_liveDaysOf_22 rfl (lv_at hl 0 rfl) ?_
    refine mt_getr (C := RX8) (T := TX8) (N := 5) hx hb hts hinX8 hown hI hH mt_T133 rfl 1 (by decide) kw0 rfl rfl dX8_liveDaysOf_23 ?_
    refine lv_iload_n hx hb dX8_liveDaysOf_26 rfl (lv_at hl 1 rfl) ?_
    refine mt_b2I hf (fun r11 M12 hg10 hf => ?_)
    refine mt_goi (mt_runV (i := 137) (As := [.int a1]) (rest := []) ⟨hx, hb, hml, hown, hts⟩ hI hH (c_X0_liveDayOf l E 137 (by decide) a1 M6 u _ _ hg10) (cwV 1 hts gX8_liveDaysOf_X0_liveDayOf rfl rfl rfl (by decide +kernel) ⟨Nat.le_of_ble_eq_true rfl, Nat.le_of_ble_eq_true rfl⟩) mt_T137 rfl rfl hl.1 rfl (Nat.le_of_ble_eq_true rfl) dX8_liveDaysOf_27 ⟨Nat.zero_le _, Nat.zero_le _⟩) hS (fun H locs hH hS => ?_)
    refine lv_pop hx hb dX8_liveDaysOf_30 rfl ?_
    refine mt_ltI hf (fun x13 ex13 hf => ?_)
    refine lv_iinc (v := x13) (lv' := [(4, .int x13), (0, .ref (E.2.1 133)), (1, .int a1), (3, .int a3)]) hx hb dX8_liveDaysOf_31 hl (k := 3) rfl (by rw [ex13]; rfl) (by decide) rfl (fun ls hl => ?_)
    refine lv_goto (tgt := 16) hx hb dX8_liveDaysOf_34 (by decide) ?_
    exact ih8 x13 M12 hf _ _ _ hH hS (lv_sub hl [1, 2, 3, 0] rfl)
set_option maxHeartbeats 4000000 in
set_option maxRecDepth 100000 in
theorem c_X8_stockWith (l : Launch) (E : mt_E) (a1 : Int32) (a2 : Int32) (M : mt_M) (u : mt_U) (r : Int32) (hf : f_X8_stockWith a1 a2 M = some (r)) : Met l yX8_stockWith wsX8_stockWith ({ frames := 2, cells := 0, slots := 0, locals := 42 } : Room) (mt_P E [.ref (E.2.1 133), .int a1, .int a2] M u) (mt_Qi E r M u) 0 0 (mt_A E) := by
  refine Met.ofW (cc := cX8_stockWith) (maxL := 3) (ret := (some .int)) (by decide) rfl ?_
  intro p e s mid args below meth c0 s₁ B hml hv
  obtain ⟨rfl, hI, hH⟩ := hv
  have hx := B.exec
  have hb := B.bytes
  have hr := B.returns
  have hts := atoms_spec (ws := wsX8_stockWith) B.pre
  have hown : s.vm.findClass RX8 = some mid.cls := findClass_of_methodNamed B.named
  have hlocks := B.notSynchronized
  have hS : va_S (mt_A E) s.heap s.heap [] := va_S.rf
  have hl := lv_entry ([.ref (E.2.1 133), .int a1, .int a2]) (n := 3) (Nat.le_of_ble_eq_true rfl)
  rw [lg_entry_eq]
  generalize (lg_sl ([.ref (E.2.1 133), .int a1, .int a2]) ++ List.replicate (3 - (lg_sl ([.ref (E.2.1 133), .int a1, .int a2])).length) Slot.unset).toArray = ls at hl ⊢
  have hl : lv_has ls 3 [(0, .ref (E.2.1 133)), (1, .int a1), (2, .int a2)] := hl
  unfold f_X8_stockWith at hf
  have kw0 := hts (.fieldLink RX8 21 "MilkTwice$Mind" "house" "LMilkTwice$House;") (List.mem_of_getElem? (i := 1) rfl)
  have hinX8 : ∀ w ∈ u_ws RX8 TX8 5, w ∈ wsX8_stockWith := fun w h => List.mem_cons_of_mem _ (List.mem_append_left _ (List.mem_append_left _ (List.mem_append_right _ h)))
  have hinX4 : ∀ w ∈ u_ws RX4 TX4 6, w ∈ wsX8_stockWith := fun w h => List.mem_cons_of_mem _ (List.mem_append_left _ (List.mem_append_right _ h))
  refine lv_aload_n hx hb dX8_stockWith_0 rfl (lv_at hl 0 rfl) ?_
  refine mt_getr (C := RX8) (T := TX8) (N := 5) hx hb hts hinX8 hown hI hH mt_T133 rfl 0 (by decide) kw0 rfl rfl dX8_stockWith_1 ?_
  refine mt_getrN (C := RX4) (T := TX4) (N := 6) hx hb hts hinX4 hown hI hH mt_T10 rfl 0 (by decide) (List.mem_of_getElem? (i := 9) rfl) rfl rfl dX8_stockWith_4 ?_
  refine lv_iload_n hx hb dX8_stockWith_7 rfl (lv_at hl 1 rfl) ?_
  refine mt_b1I hf (fun r2 hg1 hf => ?_)
  refine mt_goi (mt_runV (i := 13) (As := [.int a1]) (rest := []) ⟨hx, hb, hml, hown, hts⟩ hI hH (c_X0_stockOf l E 13 (by decide) a1 M u _ hg1) (cwV 1 hts gX8_stockWith_X0_stockOf rfl rfl rfl (by decide +kernel) ⟨Nat.le_of_ble_eq_true rfl, Nat.le_of_ble_eq_true rfl⟩) mt_T13 rfl rfl hl.1 rfl (Nat.le_of_ble_eq_true rfl) dX8_stockWith_8 ⟨Nat.zero_le _, Nat.zero_le _⟩) hS (fun H locs hH hS => ?_)
  refine lv_iload_n hx hb dX8_stockWith_11 rfl (lv_at hl 2 rfl) ?_
  refine lv_aload_n hx hb dX8_stockWith_12 rfl (lv_at hl 0 rfl) ?_
  refine mt_getr (C := RX8) (T := TX8) (N := 5) hx hb hts hinX8 hown hI hH mt_T133 rfl 0 (by decide) kw0 rfl rfl dX8_stockWith_13 ?_
  refine mt_getrN (C := RX4) (T := TX4) (N := 6) hx hb hts hinX4 hown hI hH mt_T10 rfl 0 (by decide) (List.mem_of_getElem? (i := 9) rfl) rfl rfl dX8_stockWith_16 ?_
  refine lv_iload_n hx hb dX8_stockWith_19 rfl (lv_at hl 1 rfl) ?_
  refine mt_b1I hf (fun r4 hg3 hf => ?_)
  refine mt_goi (mt_runV (i := 13) (As := [.int a1]) (rest := [.int a2, .int r2]) ⟨hx, hb, hml, hown, hts⟩ hI hH (c_X0_packOf l E 13 (by decide) a1 M u _ hg3) (cwV 1 hts gX8_stockWith_X0_packOf rfl rfl rfl (by decide +kernel) ⟨Nat.le_of_ble_eq_true rfl, Nat.le_of_ble_eq_true rfl⟩) mt_T13 rfl rfl hl.1 rfl (Nat.le_of_ble_eq_true rfl) dX8_stockWith_20 ⟨Nat.zero_le _, Nat.zero_le _⟩) hS (fun H locs hH hS => ?_)
  refine lv_imul hx hb dX8_stockWith_23 ?_
  refine lv_iadd hx hb dX8_stockWith_24 ?_
  have i1 := mt_so1 hf
  subst i1
  exact mt_iret hx hb hr hI hH hS hlocks dX8_stockWith_25
set_option maxHeartbeats 4000000 in
set_option maxRecDepth 100000 in
theorem c_X8_stockBehind (l : Launch) (E : mt_E) (a1 : Int32) (a2 : Int32) (M : mt_M) (u : mt_U) (r : Int32) (M' : mt_M) (hf : f_X8_stockBehind a1 a2 M = some (r, M')) : Met l yX8_stockBehind wsX8_stockBehind ({ frames := 4, cells := 0, slots := 0, locals := 91 } : Room) (mt_P E [.ref (E.2.1 133), .int a1, .int a2] M u) (mt_Qi E r M' u) 0 0 (mt_A E) := by
  refine Met.ofW (cc := cX8_stockBehind) (maxL := 3) (ret := (some .int)) (by decide) rfl ?_
  intro p e s mid args below meth c0 s₁ B hml hv
  obtain ⟨rfl, hI, hH⟩ := hv
  have hx := B.exec
  have hb := B.bytes
  have hr := B.returns
  have hts := atoms_spec (ws := wsX8_stockBehind) B.pre
  have hown : s.vm.findClass RX8 = some mid.cls := findClass_of_methodNamed B.named
  have hlocks := B.notSynchronized
  have hS : va_S (mt_A E) s.heap s.heap [] := va_S.rf
  have hl := lv_entry ([.ref (E.2.1 133), .int a1, .int a2]) (n := 3) (Nat.le_of_ble_eq_true rfl)
  rw [lg_entry_eq]
  generalize (lg_sl ([.ref (E.2.1 133), .int a1, .int a2]) ++ List.replicate (3 - (lg_sl ([.ref (E.2.1 133), .int a1, .int a2])).length) Slot.unset).toArray = ls at hl ⊢
  have hl : lv_has ls 3 [(0, .ref (E.2.1 133)), (1, .int a1), (2, .int a2)] := hl
  unfold f_X8_stockBehind at hf
  have kw0 := hts (.fieldLink RX8 21 "MilkTwice$Mind" "house" "LMilkTwice$House;") (List.mem_of_getElem? (i := 1) rfl)
  have kw1 := hts (.fieldLink RX8 30 "MilkTwice$Mind" "shelf" "LMilkTwice$Cupboard;") (List.mem_of_getElem? (i := 2) rfl)
  have hinX8 : ∀ w ∈ u_ws RX8 TX8 5, w ∈ wsX8_stockBehind := fun w h => List.mem_cons_of_mem _ (List.mem_append_left _ (List.mem_append_left _ (List.mem_append_right _ h)))
  have hinX4 : ∀ w ∈ u_ws RX4 TX4 6, w ∈ wsX8_stockBehind := fun w h => List.mem_cons_of_mem _ (List.mem_append_left _ (List.mem_append_right _ h))
  refine lv_aload_n hx hb dX8_stockBehind_0 rfl (lv_at hl 0 rfl) ?_
  refine lv_iload_n hx hb dX8_stockBehind_1 rfl (lv_at hl 1 rfl) ?_
  refine lv_aload_n hx hb dX8_stockBehind_2 rfl (lv_at hl 0 rfl) ?_
  refine mt_getr (C := RX8) (T := TX8) (N := 5) hx hb hts hinX8 hown hI hH mt_T133 rfl 0 (by decide) kw0 rfl rfl dX8_stockBehind_3 ?_
  refine mt_getrN (C := RX4) (T := TX4) (N := 6) hx hb hts hinX4 hown hI hH mt_T10 rfl 0 (by decide) (List.mem_of_getElem? (i := 9) rfl) rfl rfl dX8_stockBehind_6 ?_
  refine lv_iload_n hx hb dX8_stockBehind_9 rfl (lv_at hl 1 rfl) ?_
  refine mt_b1I hf (fun r2 hg1 hf => ?_)
  refine mt_goi (mt_runV (i := 13) (As := [.int a1]) (rest := [.int a1, .ref (E.2.1 133)]) ⟨hx, hb, hml, hown, hts⟩ hI hH (c_X0_stockOf l E 13 (by decide) a1 M u _ hg1) (cwV 1 hts gX8_stockBehind_X0_stockOf rfl rfl rfl (by decide +kernel) ⟨Nat.le_of_ble_eq_true rfl, Nat.le_of_ble_eq_true rfl⟩) mt_T13 rfl rfl hl.1 rfl (Nat.le_of_ble_eq_true rfl) dX8_stockBehind_10 ⟨Nat.zero_le _, Nat.zero_le _⟩) hS (fun H locs hH hS => ?_)
  refine lv_iload_n hx hb dX8_stockBehind_13 rfl (lv_at hl 2 rfl) ?_
  refine mt_b1I hf (fun M4 hg3 hf => ?_)
  refine mt_gov (mt_runV (i := 133) (As := [.int a1, .int r2, .int a2]) (rest := []) ⟨hx, hb, hml, hown, hts⟩ hI hH (c_X8_liveDaysOf l E a1 r2 a2 M u _ hg3) (cwV 3 hts gX8_stockBehind_X8_liveDaysOf rfl rfl rfl (by decide +kernel) ⟨Nat.le_of_ble_eq_true rfl, Nat.le_of_ble_eq_true rfl⟩) mt_T133 rfl rfl hl.1 rfl (Nat.le_of_ble_eq_true rfl) dX8_stockBehind_14 ⟨Nat.zero_le _, Nat.zero_le _⟩) hS (fun H locs hH hS => ?_)
  refine lv_aload_n hx hb dX8_stockBehind_17 rfl (lv_at hl 0 rfl) ?_
  refine mt_getr (C := RX8) (T := TX8) (N := 5) hx hb hts hinX8 hown hI hH mt_T133 rfl 1 (by decide) kw1 rfl rfl dX8_stockBehind_18 ?_
  refine lv_iload_n hx hb dX8_stockBehind_21 rfl (lv_at hl 1 rfl) ?_
  refine mt_b1I hf (fun r6 hg5 hf => ?_)
  refine mt_goi (mt_runV (i := 137) (As := [.int a1]) (rest := []) ⟨hx, hb, hml, hown, hts⟩ hI hH (c_X0_stockOf l E 137 (by decide) a1 M4 u _ hg5) (cwV 1 hts gX8_stockBehind_X0_stockOf rfl rfl rfl (by decide +kernel) ⟨Nat.le_of_ble_eq_true rfl, Nat.le_of_ble_eq_true rfl⟩) mt_T137 rfl rfl hl.1 rfl (Nat.le_of_ble_eq_true rfl) dX8_stockBehind_22 ⟨Nat.zero_le _, Nat.zero_le _⟩) hS (fun H locs hH hS => ?_)
  obtain ⟨i1, i2⟩ := mt_so2 hf
  subst i1
  subst i2
  exact mt_iret hx hb hr hI hH hS hlocks dX8_stockBehind_25
set_option maxHeartbeats 4000000 in
set_option maxRecDepth 100000 in
theorem c_X8_lackedIn (l : Launch) (E : mt_E) (a1 : Int32) (M : mt_M) (u : mt_U) (r : Int32) (M' : mt_M) (hf : f_X8_lackedIn a1 M = some (r, M')) : Met l yX8_lackedIn wsX8_lackedIn ({ frames := 4, cells := 0, slots := 0, locals := 90 } : Room) (mt_P E [.ref (E.2.1 133), .int a1] M u) (mt_Qi E r M' u) 0 0 (mt_A E) := by
  refine Met.ofW (cc := cX8_lackedIn) (maxL := 2) (ret := (some .int)) (by decide) rfl ?_
  intro p e s mid args below meth c0 s₁ B hml hv
  obtain ⟨rfl, hI, hH⟩ := hv
  have hx := B.exec
  have hb := B.bytes
  have hr := B.returns
  have hts := atoms_spec (ws := wsX8_lackedIn) B.pre
  have hown : s.vm.findClass RX8 = some mid.cls := findClass_of_methodNamed B.named
  have hlocks := B.notSynchronized
  have hS : va_S (mt_A E) s.heap s.heap [] := va_S.rf
  have hl := lv_entry ([.ref (E.2.1 133), .int a1]) (n := 2) (Nat.le_of_ble_eq_true rfl)
  rw [lg_entry_eq]
  generalize (lg_sl ([.ref (E.2.1 133), .int a1]) ++ List.replicate (2 - (lg_sl ([.ref (E.2.1 133), .int a1])).length) Slot.unset).toArray = ls at hl ⊢
  have hl : lv_has ls 2 [(0, .ref (E.2.1 133)), (1, .int a1)] := hl
  unfold f_X8_lackedIn at hf
  have kw0 := hts (.fieldLink RX8 30 "MilkTwice$Mind" "shelf" "LMilkTwice$Cupboard;") (List.mem_of_getElem? (i := 1) rfl)
  have hinX8 : ∀ w ∈ u_ws RX8 TX8 5, w ∈ wsX8_lackedIn := fun w h => List.mem_cons_of_mem _ (List.mem_append_left _ (List.mem_append_left _ (List.mem_append_right _ h)))
  have hinX0 : ∀ w ∈ u_ws RX0 TX0 12, w ∈ wsX8_lackedIn := fun w h => List.mem_cons_of_mem _ (List.mem_append_left _ (List.mem_append_right _ h))
  refine lv_aload_n hx hb dX8_lackedIn_0 rfl (lv_at hl 0 rfl) ?_
  refine mt_b1I hf (fun M2 hg1 hf => ?_)
  refine mt_gov (mt_runV (i := 133) (As := []) (rest := []) ⟨hx, hb, hml, hown, hts⟩ hI hH (c_X8_begin l E M u _ hg1) (cwV 0 hts gX8_lackedIn_X8_begin rfl rfl rfl (by decide +kernel) ⟨Nat.le_of_ble_eq_true rfl, Nat.le_of_ble_eq_true rfl⟩) mt_T133 rfl rfl hl.1 rfl (Nat.le_of_ble_eq_true rfl) dX8_lackedIn_1 ⟨Nat.zero_le _, Nat.zero_le _⟩) hS (fun H locs hH hS => ?_)
  refine lv_aload_n hx hb dX8_lackedIn_4 rfl (lv_at hl 0 rfl) ?_
  refine lv_iload_n hx hb dX8_lackedIn_5 rfl (lv_at hl 1 rfl) ?_
  refine mt_b1I hf (fun M4 hg3 hf => ?_)
  refine mt_gov (mt_runV (i := 133) (As := [.int a1]) (rest := []) ⟨hx, hb, hml, hown, hts⟩ hI hH (c_X8_liveDays l E a1 M2 u _ hg3) (cwV 1 hts gX8_lackedIn_X8_liveDays rfl rfl rfl (by decide +kernel) ⟨Nat.le_of_ble_eq_true rfl, Nat.le_of_ble_eq_true rfl⟩) mt_T133 rfl rfl hl.1 rfl (Nat.le_of_ble_eq_true rfl) dX8_lackedIn_6 ⟨Nat.zero_le _, Nat.zero_le _⟩) hS (fun H locs hH hS => ?_)
  refine lv_aload_n hx hb dX8_lackedIn_9 rfl (lv_at hl 0 rfl) ?_
  refine mt_getr (C := RX8) (T := TX8) (N := 5) hx hb hts hinX8 hown hI hH mt_T133 rfl 1 (by decide) kw0 rfl rfl dX8_lackedIn_10 ?_
  refine mt_getiN (C := RX0) (T := TX0) (N := 12) hx hb hts hinX0 hown hI hH mt_T137 rfl 10 (by decide) (List.mem_of_getElem? (i := 5) rfl) rfl rfl dX8_lackedIn_13 ?_
  obtain ⟨i1, i2⟩ := mt_so2 hf
  subst i1
  subst i2
  exact mt_iret hx hb hr hI hH hS hlocks dX8_lackedIn_16
set_option maxHeartbeats 4000000 in
set_option maxRecDepth 100000 in
theorem c_X8_spoiltIn (l : Launch) (E : mt_E) (a1 : Int32) (M : mt_M) (u : mt_U) (r : Int32) (M' : mt_M) (hf : f_X8_spoiltIn a1 M = some (r, M')) : Met l yX8_spoiltIn wsX8_spoiltIn ({ frames := 4, cells := 0, slots := 0, locals := 90 } : Room) (mt_P E [.ref (E.2.1 133), .int a1] M u) (mt_Qi E r M' u) 0 0 (mt_A E) := by
  refine Met.ofW (cc := cX8_spoiltIn) (maxL := 2) (ret := (some .int)) (by decide) rfl ?_
  intro p e s mid args below meth c0 s₁ B hml hv
  obtain ⟨rfl, hI, hH⟩ := hv
  have hx := B.exec
  have hb := B.bytes
  have hr := B.returns
  have hts := atoms_spec (ws := wsX8_spoiltIn) B.pre
  have hown : s.vm.findClass RX8 = some mid.cls := findClass_of_methodNamed B.named
  have hlocks := B.notSynchronized
  have hS : va_S (mt_A E) s.heap s.heap [] := va_S.rf
  have hl := lv_entry ([.ref (E.2.1 133), .int a1]) (n := 2) (Nat.le_of_ble_eq_true rfl)
  rw [lg_entry_eq]
  generalize (lg_sl ([.ref (E.2.1 133), .int a1]) ++ List.replicate (2 - (lg_sl ([.ref (E.2.1 133), .int a1])).length) Slot.unset).toArray = ls at hl ⊢
  have hl : lv_has ls 2 [(0, .ref (E.2.1 133)), (1, .int a1)] := hl
  unfold f_X8_spoiltIn at hf
  have kw0 := hts (.fieldLink RX8 30 "MilkTwice$Mind" "shelf" "LMilkTwice$Cupboard;") (List.mem_of_getElem? (i := 1) rfl)
  have hinX8 : ∀ w ∈ u_ws RX8 TX8 5, w ∈ wsX8_spoiltIn := fun w h => List.mem_cons_of_mem _ (List.mem_append_left _ (List.mem_append_left _ (List.mem_append_right _ h)))
  have hinX0 : ∀ w ∈ u_ws RX0 TX0 12, w ∈ wsX8_spoiltIn := fun w h => List.mem_cons_of_mem _ (List.mem_append_left _ (List.mem_append_right _ h))
  refine lv_aload_n hx hb dX8_spoiltIn_0 rfl (lv_at hl 0 rfl) ?_
  refine mt_b1I hf (fun M2 hg1 hf => ?_)
  refine mt_gov (mt_runV (i := 133) (As := []) (rest := []) ⟨hx, hb, hml, hown, hts⟩ hI hH (c_X8_begin l E M u _ hg1) (cwV 0 hts gX8_spoiltIn_X8_begin rfl rfl rfl (by decide +kernel) ⟨Nat.le_of_ble_eq_true rfl, Nat.le_of_ble_eq_true rfl⟩) mt_T133 rfl rfl hl.1 rfl (Nat.le_of_ble_eq_true rfl) dX8_spoiltIn_1 ⟨Nat.zero_le _, Nat.zero_le _⟩) hS (fun H locs hH hS => ?_)
  refine lv_aload_n hx hb dX8_spoiltIn_4 rfl (lv_at hl 0 rfl) ?_
  refine lv_iload_n hx hb dX8_spoiltIn_5 rfl (lv_at hl 1 rfl) ?_
  refine mt_b1I hf (fun M4 hg3 hf => ?_)
  refine mt_gov (mt_runV (i := 133) (As := [.int a1]) (rest := []) ⟨hx, hb, hml, hown, hts⟩ hI hH (c_X8_liveDays l E a1 M2 u _ hg3) (cwV 1 hts gX8_spoiltIn_X8_liveDays rfl rfl rfl (by decide +kernel) ⟨Nat.le_of_ble_eq_true rfl, Nat.le_of_ble_eq_true rfl⟩) mt_T133 rfl rfl hl.1 rfl (Nat.le_of_ble_eq_true rfl) dX8_spoiltIn_6 ⟨Nat.zero_le _, Nat.zero_le _⟩) hS (fun H locs hH hS => ?_)
  refine lv_aload_n hx hb dX8_spoiltIn_9 rfl (lv_at hl 0 rfl) ?_
  refine mt_getr (C := RX8) (T := TX8) (N := 5) hx hb hts hinX8 hown hI hH mt_T133 rfl 1 (by decide) kw0 rfl rfl dX8_spoiltIn_10 ?_
  refine mt_getiN (C := RX0) (T := TX0) (N := 12) hx hb hts hinX0 hown hI hH mt_T137 rfl 11 (by decide) (List.mem_of_getElem? (i := 7) rfl) rfl rfl dX8_spoiltIn_13 ?_
  obtain ⟨i1, i2⟩ := mt_so2 hf
  subst i1
  subst i2
  exact mt_iret hx hb hr hI hH hS hlocks dX8_spoiltIn_16
set_option maxHeartbeats 4000000 in
set_option maxRecDepth 100000 in
theorem c_X8_firstDayWithout (l : Launch) (E : mt_E) (a1 : Int32) (M : mt_M) (u : mt_U) (r : Int32) (M' : mt_M) (hf : f_X8_firstDayWithout a1 M = some (r, M')) : Met l yX8_firstDayWithout wsX8_firstDayWithout ({ frames := 3, cells := 0, slots := 0, locals := 67 } : Room) (mt_P E [.ref (E.2.1 133), .int a1] M u) (mt_Qi E r M' u) 0 0 (mt_A E) := by
  refine Met.ofW (cc := cX8_firstDayWithout) (maxL := 3) (ret := (some .int)) (by decide) rfl ?_
  intro p e s mid args below meth c0 s₁ B hml hv
  obtain ⟨rfl, hI, hH⟩ := hv
  have hx := B.exec
  have hb := B.bytes
  have hr := B.returns
  have hts := atoms_spec (ws := wsX8_firstDayWithout) B.pre
  have hown : s.vm.findClass RX8 = some mid.cls := findClass_of_methodNamed B.named
  have hlocks := B.notSynchronized
  have hS : va_S (mt_A E) s.heap s.heap [] := va_S.rf
  have hl := lv_entry ([.ref (E.2.1 133), .int a1]) (n := 3) (Nat.le_of_ble_eq_true rfl)
  rw [lg_entry_eq]
  generalize (lg_sl ([.ref (E.2.1 133), .int a1]) ++ List.replicate (3 - (lg_sl ([.ref (E.2.1 133), .int a1])).length) Slot.unset).toArray = ls at hl ⊢
  have hl : lv_has ls 3 [(0, .ref (E.2.1 133)), (1, .int a1)] := hl
  unfold f_X8_firstDayWithout at hf
  have kw0 := hts (.fieldLink RX8 30 "MilkTwice$Mind" "shelf" "LMilkTwice$Cupboard;") (List.mem_of_getElem? (i := 1) rfl)
  have hinX8 : ∀ w ∈ u_ws RX8 TX8 5, w ∈ wsX8_firstDayWithout := fun w h => List.mem_cons_of_mem _ (List.mem_append_left _ (List.mem_append_left _ (List.mem_append_right _ h)))
  refine lv_aload_n hx hb dX8_firstDayWithout_0 rfl (lv_at hl 0 rfl) ?_
  refine mt_b1I hf (fun M2 hg1 hf => ?_)
  refine mt_gov (mt_runV (i := 133) (As := []) (rest := []) ⟨hx, hb, hml, hown, hts⟩ hI hH (c_X8_begin l E M u _ hg1) (cwV 0 hts gX8_firstDayWithout_X8_begin rfl rfl rfl (by decide +kernel) ⟨Nat.le_of_ble_eq_true rfl, Nat.le_of_ble_eq_true rfl⟩) mt_T133 rfl rfl hl.1 rfl (Nat.le_of_ble_eq_true rfl) dX8_firstDayWithout_1 ⟨Nat.zero_le _, Nat.zero_le _⟩) hS (fun H locs hH hS => ?_)
  refine lv_iconst (v := 1) hx hb dX8_firstDayWithout_4 (by decide) ?_
  refine lv_istore_n (lv' := [(2, .int (1 : Int32)), (0, .ref (E.2.1 133)), (1, .int a1)]) hx hb dX8_firstDayWithout_5 rfl hl (by decide) rfl (fun ls hl => ?_)
  refine mt_lpI2 hf (fun (x3 : Int32) (M4 : mt_M) => ∀ (H : Heap) (locs : List Loc) (ls : Array Slot), mt_H E M4 u H → va_S (mt_A E) s.heap H locs → lv_has ls 3 [(0, .ref (E.2.1 133)), (1, .int a1), (2, .int x3)] → W p l e (headSpec wsX8_firstDayWithout ({ frames := 3, cells := 0, slots := 0, locals := 67 } : Room)).room s mid (([.ref (E.2.1 133), .int a1] : List Value).toArray) below meth c0 H locs 0 0 (MQ below (mt_Qi E r M' u) (([.ref (E.2.1 133), .int a1] : List Value).toArray) s 0 0 (mt_A E)) (F0 mid 6 ls [])) ?_ _ _ _ hH hS (lv_sub hl [1, 2, 0] rfl)
  intro k5 ih6 x3 M4 hf H locs ls hH hS hl
  refine lv_iload_n hx hb dX8_firstDayWithout_6 rfl (lv_at hl 2 rfl) ?_
  refine lv_bipush (v := 60) hx hb dX8_firstDayWithout_7 (by decide) ?_
  refine lv_icmp_gt (tgt := 31) hx hb dX8_firstDayWithout_9 (by decide) (fun c7 => ?_) (fun c7 => ?_)
  · have hf := mt_ifT c7 hf
    refine lv_bipush (v := (-9)) hx hb dX8_firstDayWithout_31 (by decide) ?_
    obtain ⟨i1, i2⟩ := mt_so2 hf
    subst i1
    subst i2
    exact mt_iret hx hb hr hI hH hS hlocks dX8_firstDayWithout_33
  · have hf := mt_ifF c7 hf
    refine lv_aload_n hx hb dX8_firstDayWithout_12 rfl (lv_at hl 0 rfl) ?_
    refine mt_getr (C := RX8) (T := TX8) (N := 5) hx hb hts hinX8 hown hI hH mt_T133 rfl 1 (by decide) kw0 rfl rfl dX8_firstDayWithout_13 ?_
    refine lv_iload_n hx hb dX8_firstDayWithout_16 rfl (lv_at hl 1 rfl) ?_
    refine mt_b2I hf (fun r9 M10 hg8 hf => ?_)
    refine mt_goi (mt_runV (i := 137) (As := [.int a1]) (rest := []) ⟨hx, hb, hml, hown, hts⟩ hI hH (c_X0_liveDayOf l E 137 (by decide) a1 M4 u _ _ hg8) (cwV 1 hts gX8_firstDayWithout_X0_liveDayOf rfl rfl rfl (by decide +kernel) ⟨Nat.le_of_ble_eq_true rfl, Nat.le_of_ble_eq_true rfl⟩) mt_T137 rfl rfl hl.1 rfl (Nat.le_of_ble_eq_true rfl) dX8_firstDayWithout_17 ⟨Nat.zero_le _, Nat.zero_le _⟩) hS (fun H locs hH hS => ?_)
    refine lv_if_le (tgt := 25) hx hb dX8_firstDayWithout_20 (by decide) (fun c11 => ?_) (fun c11 => ?_)
    · have hf := mt_ifT c11 hf
      refine mt_ltI hf (fun x12 ex12 hf => ?_)
      refine lv_iinc (v := x12) (lv' := [(2, .int x12), (0, .ref (E.2.1 133)), (1, .int a1)]) hx hb dX8_firstDayWithout_25 hl (k := 2) rfl (by rw [ex12]; rfl) (by decide) rfl (fun ls hl => ?_)
      refine lv_goto (tgt := 6) hx hb dX8_firstDayWithout_28 (by decide) ?_
      exact ih6 x12 M10 hf _ _ _ hH hS (lv_sub hl [1, 2, 0] rfl)
    · have hf := mt_ifF c11 hf
      refine lv_iload_n hx hb dX8_firstDayWithout_23 rfl (lv_at hl 2 rfl) ?_
      obtain ⟨i1, i2⟩ := mt_so2 hf
      subst i1
      subst i2
      exact mt_iret hx hb hr hI hH hS hlocks dX8_firstDayWithout_24

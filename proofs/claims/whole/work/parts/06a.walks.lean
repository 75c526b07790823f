/-! THE WALKS, laid by program: each method returns what its pure function says, and leaves the memory so -/
set_option maxHeartbeats 4000000 in
set_option maxRecDepth 100000 in
theorem c_X6_priceAt (l : Launch) (E : mt_E) (g ci : Nat) (C0 : String) (T0 : u_T) (N0 : Nat) (hT0 : mt_T g = (1, ci, [])) (hc0 : vwCl[ci]? = some (C0, T0, N0)) (a1 : Int32) (M : mt_M) (u : mt_U) (r : Int32) (hf : f_X6_priceAt a1 = some (r)) : Met l yX6_priceAt wsX6_priceAt ({ frames := 0, cells := 0, slots := 0, locals := 0 } : Room) (mt_P E [.ref (E.2.1 g), .int a1] M u) (mt_Qi E r M u) 0 0 (mt_A E) := by
  refine Met.ofW (cc := cX6_priceAt) (maxL := 2) (ret := (some .int)) (by decide) rfl ?_
  intro p e s mid args below meth c0 s₁ B hml hv
  obtain ⟨rfl, hI, hH⟩ := hv
  have hx := B.exec
  have hb := B.bytes
  have hr := B.returns
  have hts := atoms_spec (ws := wsX6_priceAt) B.pre
  have hown : s.vm.findClass RX6 = some mid.cls := findClass_of_methodNamed B.named
  have hlocks := B.notSynchronized
  have hS : va_S (mt_A E) s.heap s.heap [] := va_S.rf
  have hl := lv_entry ([.ref (E.2.1 g), .int a1]) (n := 2) (Nat.le_of_ble_eq_true rfl)
  rw [lg_entry_eq]
  generalize (lg_sl ([.ref (E.2.1 g), .int a1]) ++ List.replicate (2 - (lg_sl ([.ref (E.2.1 g), .int a1])).length) Slot.unset).toArray = ls at hl ⊢
  have hl : lv_has ls 2 [(0, .ref (E.2.1 g)), (1, .int a1)] := hl
  unfold f_X6_priceAt at hf
  refine lv_iload_n hx hb dX6_priceAt_0 rfl (lv_at hl 1 rfl) ?_
  refine lv_iconst (v := 2) hx hb dX6_priceAt_1 (by decide) ?_
  refine lv_iadd hx hb dX6_priceAt_2 ?_
  have i1 := mt_so1 hf
  subst i1
  exact mt_iret hx hb hr hI hH hS hlocks dX6_priceAt_3
set_option maxHeartbeats 4000000 in
set_option maxRecDepth 100000 in
theorem c_X6_packSize (l : Launch) (E : mt_E) (g ci : Nat) (C0 : String) (T0 : u_T) (N0 : Nat) (hT0 : mt_T g = (1, ci, [])) (hc0 : vwCl[ci]? = some (C0, T0, N0)) (M : mt_M) (u : mt_U) (r : Int32) (hf : f_X6_packSize  = some (r)) : Met l yX6_packSize wsX6_packSize ({ frames := 0, cells := 0, slots := 0, locals := 0 } : Room) (mt_P E [.ref (E.2.1 g)] M u) (mt_Qi E r M u) 0 0 (mt_A E) := by
  refine Met.ofW (cc := cX6_packSize) (maxL := 1) (ret := (some .int)) (by decide) rfl ?_
  intro p e s mid args below meth c0 s₁ B hml hv
  obtain ⟨rfl, hI, hH⟩ := hv
  have hx := B.exec
  have hb := B.bytes
  have hr := B.returns
  have hts := atoms_spec (ws := wsX6_packSize) B.pre
  have hown : s.vm.findClass RX6 = some mid.cls := findClass_of_methodNamed B.named
  have hlocks := B.notSynchronized
  have hS : va_S (mt_A E) s.heap s.heap [] := va_S.rf
  have hl := lv_entry ([.ref (E.2.1 g)]) (n := 1) (Nat.le_of_ble_eq_true rfl)
  rw [lg_entry_eq]
  generalize (lg_sl ([.ref (E.2.1 g)]) ++ List.replicate (1 - (lg_sl ([.ref (E.2.1 g)])).length) Slot.unset).toArray = ls at hl ⊢
  have hl : lv_has ls 1 [(0, .ref (E.2.1 g))] := hl
  unfold f_X6_packSize at hf
  refine lv_iconst (v := 1) hx hb dX6_packSize_0 (by decide) ?_
  have i1 := mt_so1 hf
  subst i1
  exact mt_iret hx hb hr hI hH hS hlocks dX6_packSize_1
set_option maxHeartbeats 4000000 in
set_option maxRecDepth 100000 in
theorem c_X6_lostOf (l : Launch) (E : mt_E) (g ci : Nat) (C0 : String) (T0 : u_T) (N0 : Nat) (hT0 : mt_T g = (1, ci, [])) (hc0 : vwCl[ci]? = some (C0, T0, N0)) (a1 : Int32) (a2 : Int32) (M : mt_M) (u : mt_U) (r : Int32) (hf : f_X6_lostOf a1 a2 = some (r)) : Met l yX6_lostOf wsX6_lostOf ({ frames := 0, cells := 0, slots := 0, locals := 0 } : Room) (mt_P E [.ref (E.2.1 g), .int a1, .int a2] M u) (mt_Qi E r M u) 0 0 (mt_A E) := by
  refine Met.ofW (cc := cX6_lostOf) (maxL := 3) (ret := (some .int)) (by decide) rfl ?_
  intro p e s mid args below meth c0 s₁ B hml hv
  obtain ⟨rfl, hI, hH⟩ := hv
  have hx := B.exec
  have hb := B.bytes
  have hr := B.returns
  have hts := atoms_spec (ws := wsX6_lostOf) B.pre
  have hown : s.vm.findClass RX6 = some mid.cls := findClass_of_methodNamed B.named
  have hlocks := B.notSynchronized
  have hS : va_S (mt_A E) s.heap s.heap [] := va_S.rf
  have hl := lv_entry ([.ref (E.2.1 g), .int a1, .int a2]) (n := 3) (Nat.le_of_ble_eq_true rfl)
  rw [lg_entry_eq]
  generalize (lg_sl ([.ref (E.2.1 g), .int a1, .int a2]) ++ List.replicate (3 - (lg_sl ([.ref (E.2.1 g), .int a1, .int a2])).length) Slot.unset).toArray = ls at hl ⊢
  have hl : lv_has ls 3 [(0, .ref (E.2.1 g)), (1, .int a1), (2, .int a2)] := hl
  unfold f_X6_lostOf at hf
  refine lv_iconst (v := 0) hx hb dX6_lostOf_0 (by decide) ?_
  have i1 := mt_so1 hf
  subst i1
  exact mt_iret hx hb hr hI hH hS hlocks dX6_lostOf_1
set_option maxHeartbeats 4000000 in
set_option maxRecDepth 100000 in
theorem c_X6_harmOfTwo (l : Launch) (E : mt_E) (g ci : Nat) (C0 : String) (T0 : u_T) (N0 : Nat) (hT0 : mt_T g = (1, ci, [])) (hc0 : vwCl[ci]? = some (C0, T0, N0)) (a1 : Int32) (M : mt_M) (u : mt_U) (r : Int32) (hf : f_X6_harmOfTwo a1 = some (r)) : Met l yX6_harmOfTwo wsX6_harmOfTwo ({ frames := 0, cells := 0, slots := 0, locals := 0 } : Room) (mt_P E [.ref (E.2.1 g), .int a1] M u) (mt_Qi E r M u) 0 0 (mt_A E) := by
  refine Met.ofW (cc := cX6_harmOfTwo) (maxL := 2) (ret := (some .int)) (by decide) rfl ?_
  intro p e s mid args below meth c0 s₁ B hml hv
  obtain ⟨rfl, hI, hH⟩ := hv
  have hx := B.exec
  have hb := B.bytes
  have hr := B.returns
  have hts := atoms_spec (ws := wsX6_harmOfTwo) B.pre
  have hown : s.vm.findClass RX6 = some mid.cls := findClass_of_methodNamed B.named
  have hlocks := B.notSynchronized
  have hS : va_S (mt_A E) s.heap s.heap [] := va_S.rf
  have hl := lv_entry ([.ref (E.2.1 g), .int a1]) (n := 2) (Nat.le_of_ble_eq_true rfl)
  rw [lg_entry_eq]
  generalize (lg_sl ([.ref (E.2.1 g), .int a1]) ++ List.replicate (2 - (lg_sl ([.ref (E.2.1 g), .int a1])).length) Slot.unset).toArray = ls at hl ⊢
  have hl : lv_has ls 2 [(0, .ref (E.2.1 g)), (1, .int a1)] := hl
  unfold f_X6_harmOfTwo at hf
  refine lv_iload_n hx hb dX6_harmOfTwo_0 rfl (lv_at hl 1 rfl) ?_
  have i1 := mt_so1 hf
  subst i1
  exact mt_iret hx hb hr hI hH hS hlocks dX6_harmOfTwo_1
set_option maxHeartbeats 4000000 in
set_option maxRecDepth 100000 in
theorem c_X9_priceAt (l : Launch) (E : mt_E) (g ci : Nat) (C0 : String) (T0 : u_T) (N0 : Nat) (hT0 : mt_T g = (1, ci, [])) (hc0 : vwCl[ci]? = some (C0, T0, N0)) (a1 : Int32) (M : mt_M) (u : mt_U) (r : Int32) (hf : f_X9_priceAt a1 = some (r)) : Met l yX9_priceAt wsX9_priceAt ({ frames := 1, cells := 0, slots := 0, locals := 21 } : Room) (mt_P E [.ref (E.2.1 g), .int a1] M u) (mt_Qi E r M u) 0 0 (mt_A E) := by
  refine Met.ofW (cc := cX9_priceAt) (maxL := 2) (ret := (some .int)) (by decide) rfl ?_
  intro p e s mid args below meth c0 s₁ B hml hv
  obtain ⟨rfl, hI, hH⟩ := hv
  have hx := B.exec
  have hb := B.bytes
  have hr := B.returns
  have hts := atoms_spec (ws := wsX9_priceAt) B.pre
  have hown : s.vm.findClass RX9 = some mid.cls := findClass_of_methodNamed B.named
  have hlocks := B.notSynchronized
  have hS : va_S (mt_A E) s.heap s.heap [] := va_S.rf
  have hl := lv_entry ([.ref (E.2.1 g), .int a1]) (n := 2) (Nat.le_of_ble_eq_true rfl)
  rw [lg_entry_eq]
  generalize (lg_sl ([.ref (E.2.1 g), .int a1]) ++ List.replicate (2 - (lg_sl ([.ref (E.2.1 g), .int a1])).length) Slot.unset).toArray = ls at hl ⊢
  have hl : lv_has ls 2 [(0, .ref (E.2.1 g)), (1, .int a1)] := hl
  unfold f_X9_priceAt at hf
  refine lv_aload_n hx hb dX9_priceAt_0 rfl (lv_at hl 0 rfl) ?_
  refine lv_iload_n hx hb dX9_priceAt_1 rfl (lv_at hl 1 rfl) ?_
  refine mt_b1I hf (fun r2 hg1 hf => ?_)
  refine mt_goi (mt_runSU (i := g) (As := [.int a1]) (rest := []) ⟨hx, hb, hml, hown, hts⟩ hI hH (c_X6_priceAt l E g ci C0 T0 N0 hT0 hc0 a1 M u _ hg1) (va_cwSU 1 hts gX9_priceAt_X6_priceAt_s7 rfl rfl rfl (by decide +kernel) ⟨Nat.le_of_ble_eq_true rfl, Nat.le_of_ble_eq_true rfl⟩) hT0 hc0 rfl hl.1 rfl (Nat.le_of_ble_eq_true rfl) dX9_priceAt_2 ⟨Nat.zero_le _, Nat.zero_le _⟩) hS (fun H locs hH hS => ?_)
  refine lv_iconst (v := 2) hx hb dX9_priceAt_5 (by decide) ?_
  refine lv_idiv hx hb dX9_priceAt_6 (by decide) ?_
  have i1 := mt_so1 hf
  subst i1
  exact mt_iret hx hb hr hI hH hS hlocks dX9_priceAt_7
set_option maxHeartbeats 4000000 in
set_option maxRecDepth 100000 in
theorem c_X9_packSize (l : Launch) (E : mt_E) (g ci : Nat) (C0 : String) (T0 : u_T) (N0 : Nat) (hT0 : mt_T g = (1, ci, [])) (hc0 : vwCl[ci]? = some (C0, T0, N0)) (M : mt_M) (u : mt_U) (r : Int32) (hf : f_X9_packSize  = some (r)) : Met l yX9_packSize wsX9_packSize ({ frames := 0, cells := 0, slots := 0, locals := 0 } : Room) (mt_P E [.ref (E.2.1 g)] M u) (mt_Qi E r M u) 0 0 (mt_A E) := by
  refine Met.ofW (cc := cX9_packSize) (maxL := 1) (ret := (some .int)) (by decide) rfl ?_
  intro p e s mid args below meth c0 s₁ B hml hv
  obtain ⟨rfl, hI, hH⟩ := hv
  have hx := B.exec
  have hb := B.bytes
  have hr := B.returns
  have hts := atoms_spec (ws := wsX9_packSize) B.pre
  have hown : s.vm.findClass RX9 = some mid.cls := findClass_of_methodNamed B.named
  have hlocks := B.notSynchronized
  have hS : va_S (mt_A E) s.heap s.heap [] := va_S.rf
  have hl := lv_entry ([.ref (E.2.1 g)]) (n := 1) (Nat.le_of_ble_eq_true rfl)
  rw [lg_entry_eq]
  generalize (lg_sl ([.ref (E.2.1 g)]) ++ List.replicate (1 - (lg_sl ([.ref (E.2.1 g)])).length) Slot.unset).toArray = ls at hl ⊢
  have hl : lv_has ls 1 [(0, .ref (E.2.1 g))] := hl
  unfold f_X9_packSize at hf
  refine lv_iconst (v := 2) hx hb dX9_packSize_0 (by decide) ?_
  have i1 := mt_so1 hf
  subst i1
  exact mt_iret hx hb hr hI hH hS hlocks dX9_packSize_1
set_option maxHeartbeats 4000000 in
set_option maxRecDepth 100000 in
theorem c_X9_lostOf (l : Launch) (E : mt_E) (g ci : Nat) (C0 : String) (T0 : u_T) (N0 : Nat) (hT0 : mt_T g = (1, ci, [])) (hc0 : vwCl[ci]? = some (C0, T0, N0)) (a1 : Int32) (a2 : Int32) (M : mt_M) (u : mt_U) (r : Int32) (hf : f_X9_lostOf a1 a2 = some (r)) : Met l yX9_lostOf wsX9_lostOf ({ frames := 0, cells := 0, slots := 0, locals := 0 } : Room) (mt_P E [.ref (E.2.1 g), .int a1, .int a2] M u) (mt_Qi E r M u) 0 0 (mt_A E) := by
  refine Met.ofW (cc := cX9_lostOf) (maxL := 3) (ret := (some .int)) (by decide) rfl ?_
  intro p e s mid args below meth c0 s₁ B hml hv
  obtain ⟨rfl, hI, hH⟩ := hv
  have hx := B.exec
  have hb := B.bytes
  have hr := B.returns
  have hts := atoms_spec (ws := wsX9_lostOf) B.pre
  have hown : s.vm.findClass RX9 = some mid.cls := findClass_of_methodNamed B.named
  have hlocks := B.notSynchronized
  have hS : va_S (mt_A E) s.heap s.heap [] := va_S.rf
  have hl := lv_entry ([.ref (E.2.1 g), .int a1, .int a2]) (n := 3) (Nat.le_of_ble_eq_true rfl)
  rw [lg_entry_eq]
  generalize (lg_sl ([.ref (E.2.1 g), .int a1, .int a2]) ++ List.replicate (3 - (lg_sl ([.ref (E.2.1 g), .int a1, .int a2])).length) Slot.unset).toArray = ls at hl ⊢
  have hl : lv_has ls 3 [(0, .ref (E.2.1 g)), (1, .int a1), (2, .int a2)] := hl
  unfold f_X9_lostOf at hf
  refine lv_iload_n hx hb dX9_lostOf_0 rfl (lv_at hl 1 rfl) ?_
  refine lv_iload_n hx hb dX9_lostOf_1 rfl (lv_at hl 2 rfl) ?_
  refine lv_icmp_le (tgt := 13) hx hb dX9_lostOf_2 (by decide) (fun c1 => ?_) (fun c1 => ?_)
  · have hf := mt_ifT c1 hf
    refine lv_iconst (v := 0) hx hb dX9_lostOf_13 (by decide) ?_
    have i1 := mt_so1 hf
    subst i1
    exact mt_iret hx hb hr hI hH hS hlocks dX9_lostOf_14
  · have hf := mt_ifF c1 hf
    refine lv_iload_n hx hb dX9_lostOf_5 rfl (lv_at hl 1 rfl) ?_
    refine lv_iload_n hx hb dX9_lostOf_6 rfl (lv_at hl 2 rfl) ?_
    refine lv_isub hx hb dX9_lostOf_7 ?_
    refine lv_iconst (v := 2) hx hb dX9_lostOf_8 (by decide) ?_
    refine lv_idiv hx hb dX9_lostOf_9 (by decide) ?_
    refine lv_goto (tgt := 14) hx hb dX9_lostOf_10 (by decide) ?_
    have i1 := mt_so1 hf
    subst i1
    exact mt_iret hx hb hr hI hH hS hlocks dX9_lostOf_14
set_option maxHeartbeats 4000000 in
set_option maxRecDepth 100000 in
theorem c_X9_harmOfTwo (l : Launch) (E : mt_E) (g ci : Nat) (C0 : String) (T0 : u_T) (N0 : Nat) (hT0 : mt_T g = (1, ci, [])) (hc0 : vwCl[ci]? = some (C0, T0, N0)) (a1 : Int32) (M : mt_M) (u : mt_U) (r : Int32) (hf : f_X9_harmOfTwo a1 = some (r)) : Met l yX9_harmOfTwo wsX9_harmOfTwo ({ frames := 1, cells := 0, slots := 0, locals := 21 } : Room) (mt_P E [.ref (E.2.1 g), .int a1] M u) (mt_Qi E r M u) 0 0 (mt_A E) := by
  refine Met.ofW (cc := cX9_harmOfTwo) (maxL := 2) (ret := (some .int)) (by decide) rfl ?_
  intro p e s mid args below meth c0 s₁ B hml hv
  obtain ⟨rfl, hI, hH⟩ := hv
  have hx := B.exec
  have hb := B.bytes
  have hr := B.returns
  have hts := atoms_spec (ws := wsX9_harmOfTwo) B.pre
  have hown : s.vm.findClass RX9 = some mid.cls := findClass_of_methodNamed B.named
  have hlocks := B.notSynchronized
  have hS : va_S (mt_A E) s.heap s.heap [] := va_S.rf
  have hl := lv_entry ([.ref (E.2.1 g), .int a1]) (n := 2) (Nat.le_of_ble_eq_true rfl)
  rw [lg_entry_eq]
  generalize (lg_sl ([.ref (E.2.1 g), .int a1]) ++ List.replicate (2 - (lg_sl ([.ref (E.2.1 g), .int a1])).length) Slot.unset).toArray = ls at hl ⊢
  have hl : lv_has ls 2 [(0, .ref (E.2.1 g)), (1, .int a1)] := hl
  unfold f_X9_harmOfTwo at hf
  refine lv_iconst (v := 2) hx hb dX9_harmOfTwo_0 (by decide) ?_
  refine lv_aload_n hx hb dX9_harmOfTwo_1 rfl (lv_at hl 0 rfl) ?_
  refine lv_iload_n hx hb dX9_harmOfTwo_2 rfl (lv_at hl 1 rfl) ?_
  refine mt_b1I hf (fun r2 hg1 hf => ?_)
  refine mt_goi (mt_runSU (i := g) (As := [.int a1]) (rest := [.int (2 : Int32)]) ⟨hx, hb, hml, hown, hts⟩ hI hH (c_X6_harmOfTwo l E g ci C0 T0 N0 hT0 hc0 a1 M u _ hg1) (va_cwSU 1 hts gX9_harmOfTwo_X6_harmOfTwo_s11 rfl rfl rfl (by decide +kernel) ⟨Nat.le_of_ble_eq_true rfl, Nat.le_of_ble_eq_true rfl⟩) hT0 hc0 rfl hl.1 rfl (Nat.le_of_ble_eq_true rfl) dX9_harmOfTwo_3 ⟨Nat.zero_le _, Nat.zero_le _⟩) hS (fun H locs hH hS => ?_)
  refine lv_imul hx hb dX9_harmOfTwo_6 ?_
  have i1 := mt_so1 hf
  subst i1
  exact mt_iret hx hb hr hI hH hS hlocks dX9_harmOfTwo_7
set_option maxHeartbeats 4000000 in
set_option maxRecDepth 100000 in
theorem c_X5_packSize (l : Launch) (E : mt_E) (g ci : Nat) (C0 : String) (T0 : u_T) (N0 : Nat) (hT0 : mt_T g = (1, ci, [])) (hc0 : vwCl[ci]? = some (C0, T0, N0)) (M : mt_M) (u : mt_U) (r : Int32) (hf : f_X5_packSize  = some (r)) : Met l yX5_packSize wsX5_packSize ({ frames := 0, cells := 0, slots := 0, locals := 0 } : Room) (mt_P E [.ref (E.2.1 g)] M u) (mt_Qi E r M u) 0 0 (mt_A E) := by
  refine Met.ofW (cc := cX5_packSize) (maxL := 1) (ret := (some .int)) (by decide) rfl ?_
  intro p e s mid args below meth c0 s₁ B hml hv
  obtain ⟨rfl, hI, hH⟩ := hv
  have hx := B.exec
  have hb := B.bytes
  have hr := B.returns
  have hts := atoms_spec (ws := wsX5_packSize) B.pre
  have hown : s.vm.findClass RX5 = some mid.cls := findClass_of_methodNamed B.named
  have hlocks := B.notSynchronized
  have hS : va_S (mt_A E) s.heap s.heap [] := va_S.rf
  have hl := lv_entry ([.ref (E.2.1 g)]) (n := 1) (Nat.le_of_ble_eq_true rfl)
  rw [lg_entry_eq]
  generalize (lg_sl ([.ref (E.2.1 g)]) ++ List.replicate (1 - (lg_sl ([.ref (E.2.1 g)])).length) Slot.unset).toArray = ls at hl ⊢
  have hl : lv_has ls 1 [(0, .ref (E.2.1 g))] := hl
  unfold f_X5_packSize at hf
  refine lv_iconst (v := 3) hx hb dX5_packSize_0 (by decide) ?_
  have i1 := mt_so1 hf
  subst i1
  exact mt_iret hx hb hr hI hH hS hlocks dX5_packSize_1
set_option maxHeartbeats 4000000 in
set_option maxRecDepth 100000 in
theorem c_X5_harmOfTwo (l : Launch) (E : mt_E) (g ci : Nat) (C0 : String) (T0 : u_T) (N0 : Nat) (hT0 : mt_T g = (1, ci, [])) (hc0 : vwCl[ci]? = some (C0, T0, N0)) (a1 : Int32) (M : mt_M) (u : mt_U) (r : Int32) (hf : f_X5_harmOfTwo a1 = some (r)) : Met l yX5_harmOfTwo wsX5_harmOfTwo ({ frames := 0, cells := 0, slots := 0, locals := 0 } : Room) (mt_P E [.ref (E.2.1 g), .int a1] M u) (mt_Qi E r M u) 0 0 (mt_A E) := by
  refine Met.ofW (cc := cX5_harmOfTwo) (maxL := 2) (ret := (some .int)) (by decide) rfl ?_
  intro p e s mid args below meth c0 s₁ B hml hv
  obtain ⟨rfl, hI, hH⟩ := hv
  have hx := B.exec
  have hb := B.bytes
  have hr := B.returns
  have hts := atoms_spec (ws := wsX5_harmOfTwo) B.pre
  have hown : s.vm.findClass RX5 = some mid.cls := findClass_of_methodNamed B.named
  have hlocks := B.notSynchronized
  have hS : va_S (mt_A E) s.heap s.heap [] := va_S.rf
  have hl := lv_entry ([.ref (E.2.1 g), .int a1]) (n := 2) (Nat.le_of_ble_eq_true rfl)
  rw [lg_entry_eq]
  generalize (lg_sl ([.ref (E.2.1 g), .int a1]) ++ List.replicate (2 - (lg_sl ([.ref (E.2.1 g), .int a1])).length) Slot.unset).toArray = ls at hl ⊢
  have hl : lv_has ls 2 [(0, .ref (E.2.1 g)), (1, .int a1)] := hl
  unfold f_X5_harmOfTwo at hf
  refine lv_iconst (v := 0) hx hb dX5_harmOfTwo_0 (by decide) ?_
  have i1 := mt_so1 hf
  subst i1
  exact mt_iret hx hb hr hI hH hS hlocks dX5_harmOfTwo_1
set_option maxHeartbeats 4000000 in
set_option maxRecDepth 100000 in
theorem c_X1_priceAt (l : Launch) (E : mt_E) (g ci : Nat) (C0 : String) (T0 : u_T) (N0 : Nat) (hT0 : mt_T g = (1, ci, [])) (hc0 : vwCl[ci]? = some (C0, T0, N0)) (a1 : Int32) (M : mt_M) (u : mt_U) (r : Int32) (hf : f_X1_priceAt a1 = some (r)) : Met l yX1_priceAt wsX1_priceAt ({ frames := 1, cells := 0, slots := 0, locals := 21 } : Room) (mt_P E [.ref (E.2.1 g), .int a1] M u) (mt_Qi E r M u) 0 0 (mt_A E) := by
  refine Met.ofW (cc := cX1_priceAt) (maxL := 2) (ret := (some .int)) (by decide) rfl ?_
  intro p e s mid args below meth c0 s₁ B hml hv
  obtain ⟨rfl, hI, hH⟩ := hv
  have hx := B.exec
  have hb := B.bytes
  have hr := B.returns
  have hts := atoms_spec (ws := wsX1_priceAt) B.pre
  have hown : s.vm.findClass RX1 = some mid.cls := findClass_of_methodNamed B.named
  have hlocks := B.notSynchronized
  have hS : va_S (mt_A E) s.heap s.heap [] := va_S.rf
  have hl := lv_entry ([.ref (E.2.1 g), .int a1]) (n := 2) (Nat.le_of_ble_eq_true rfl)
  rw [lg_entry_eq]
  generalize (lg_sl ([.ref (E.2.1 g), .int a1]) ++ List.replicate (2 - (lg_sl ([.ref (E.2.1 g), .int a1])).length) Slot.unset).toArray = ls at hl ⊢
  have hl : lv_has ls 2 [(0, .ref (E.2.1 g)), (1, .int a1)] := hl
  unfold f_X1_priceAt at hf
  refine lv_iconst (v := 5) hx hb dX1_priceAt_0 (by decide) ?_
  refine lv_aload_n hx hb dX1_priceAt_1 rfl (lv_at hl 0 rfl) ?_
  refine lv_iload_n hx hb dX1_priceAt_2 rfl (lv_at hl 1 rfl) ?_
  refine mt_b1I hf (fun r2 hg1 hf => ?_)
  refine mt_goi (mt_runSI (i := g) (As := [.int a1]) (rest := [.int (5 : Int32)]) ⟨hx, hb, hml, hown, hts⟩ hI hH (c_X6_priceAt l E g ci C0 T0 N0 hT0 hc0 a1 M u _ hg1) (mt_siK hI RX1 (List.mem_of_getElem? (i := 0) rfl) (List.mem_of_getElem? (i := 3) rfl) ⟨Nat.le_of_ble_eq_true rfl, Nat.le_of_ble_eq_true rfl⟩) ⟨rfl, rfl⟩ hT0 hc0 rfl hl.1 rfl (Nat.le_of_ble_eq_true rfl) dX1_priceAt_3 ⟨Nat.zero_le _, Nat.zero_le _⟩) hS (fun H locs hH hS => ?_)
  refine lv_imul hx hb dX1_priceAt_6 ?_
  have i1 := mt_so1 hf
  subst i1
  exact mt_iret hx hb hr hI hH hS hlocks dX1_priceAt_7
set_option maxHeartbeats 4000000 in
set_option maxRecDepth 100000 in
theorem c_X1_packSize (l : Launch) (E : mt_E) (g ci : Nat) (C0 : String) (T0 : u_T) (N0 : Nat) (hT0 : mt_T g = (1, ci, [])) (hc0 : vwCl[ci]? = some (C0, T0, N0)) (M : mt_M) (u : mt_U) (r : Int32) (hf : f_X1_packSize  = some (r)) : Met l yX1_packSize wsX1_packSize ({ frames := 0, cells := 0, slots := 0, locals := 0 } : Room) (mt_P E [.ref (E.2.1 g)] M u) (mt_Qi E r M u) 0 0 (mt_A E) := by
  refine Met.ofW (cc := cX1_packSize) (maxL := 1) (ret := (some .int)) (by decide) rfl ?_
  intro p e s mid args below meth c0 s₁ B hml hv
  obtain ⟨rfl, hI, hH⟩ := hv
  have hx := B.exec
  have hb := B.bytes
  have hr := B.returns
  have hts := atoms_spec (ws := wsX1_packSize) B.pre
  have hown : s.vm.findClass RX1 = some mid.cls := findClass_of_methodNamed B.named
  have hlocks := B.notSynchronized
  have hS : va_S (mt_A E) s.heap s.heap [] := va_S.rf
  have hl := lv_entry ([.ref (E.2.1 g)]) (n := 1) (Nat.le_of_ble_eq_true rfl)
  rw [lg_entry_eq]
  generalize (lg_sl ([.ref (E.2.1 g)]) ++ List.replicate (1 - (lg_sl ([.ref (E.2.1 g)])).length) Slot.unset).toArray = ls at hl ⊢
  have hl : lv_has ls 1 [(0, .ref (E.2.1 g))] := hl
  unfold f_X1_packSize at hf
  refine lv_iconst (v := 1) hx hb dX1_packSize_0 (by decide) ?_
  have i1 := mt_so1 hf
  subst i1
  exact mt_iret hx hb hr hI hH hS hlocks dX1_packSize_1
set_option maxHeartbeats 4000000 in
set_option maxRecDepth 100000 in
theorem c_X1_harmOfTwo (l : Launch) (E : mt_E) (g ci : Nat) (C0 : String) (T0 : u_T) (N0 : Nat) (hT0 : mt_T g = (1, ci, [])) (hc0 : vwCl[ci]? = some (C0, T0, N0)) (a1 : Int32) (M : mt_M) (u : mt_U) (r : Int32) (hf : f_X1_harmOfTwo a1 = some (r)) : Met l yX1_harmOfTwo wsX1_harmOfTwo ({ frames := 0, cells := 0, slots := 0, locals := 0 } : Room) (mt_P E [.ref (E.2.1 g), .int a1] M u) (mt_Qi E r M u) 0 0 (mt_A E) := by
  refine Met.ofW (cc := cX1_harmOfTwo) (maxL := 2) (ret := (some .int)) (by decide) rfl ?_
  intro p e s mid args below meth c0 s₁ B hml hv
  obtain ⟨rfl, hI, hH⟩ := hv
  have hx := B.exec
  have hb := B.bytes
  have hr := B.returns
  have hts := atoms_spec (ws := wsX1_harmOfTwo) B.pre
  have hown : s.vm.findClass RX1 = some mid.cls := findClass_of_methodNamed B.named
  have hlocks := B.notSynchronized
  have hS : va_S (mt_A E) s.heap s.heap [] := va_S.rf
  have hl := lv_entry ([.ref (E.2.1 g), .int a1]) (n := 2) (Nat.le_of_ble_eq_true rfl)
  rw [lg_entry_eq]
  generalize (lg_sl ([.ref (E.2.1 g), .int a1]) ++ List.replicate (2 - (lg_sl ([.ref (E.2.1 g), .int a1])).length) Slot.unset).toArray = ls at hl ⊢
  have hl : lv_has ls 2 [(0, .ref (E.2.1 g)), (1, .int a1)] := hl
  unfold f_X1_harmOfTwo at hf
  refine lv_iload_n hx hb dX1_harmOfTwo_0 rfl (lv_at hl 1 rfl) ?_
  refine lv_iconst (v := 2) hx hb dX1_harmOfTwo_1 (by decide) ?_
  refine lv_idiv hx hb dX1_harmOfTwo_2 (by decide) ?_
  have i1 := mt_so1 hf
  subst i1
  exact mt_iret hx hb hr hI hH hS hlocks dX1_harmOfTwo_3
set_option maxHeartbeats 4000000 in
set_option maxRecDepth 100000 in
theorem c_X2_priceAt (l : Launch) (E : mt_E) (g ci : Nat) (C0 : String) (T0 : u_T) (N0 : Nat) (hT0 : mt_T g = (1, ci, [])) (hc0 : vwCl[ci]? = some (C0, T0, N0)) (a1 : Int32) (M : mt_M) (u : mt_U) (r : Int32) (hf : f_X2_priceAt a1 = some (r)) : Met l yX2_priceAt wsX2_priceAt ({ frames := 2, cells := 0, slots := 0, locals := 42 } : Room) (mt_P E [.ref (E.2.1 g), .int a1] M u) (mt_Qi E r M u) 0 0 (mt_A E) := by
  refine Met.ofW (cc := cX2_priceAt) (maxL := 2) (ret := (some .int)) (by decide) rfl ?_
  intro p e s mid args below meth c0 s₁ B hml hv
  obtain ⟨rfl, hI, hH⟩ := hv
  have hx := B.exec
  have hb := B.bytes
  have hr := B.returns
  have hts := atoms_spec (ws := wsX2_priceAt) B.pre
  have hown : s.vm.findClass RX2 = some mid.cls := findClass_of_methodNamed B.named
  have hlocks := B.notSynchronized
  have hS : va_S (mt_A E) s.heap s.heap [] := va_S.rf
  have hl := lv_entry ([.ref (E.2.1 g), .int a1]) (n := 2) (Nat.le_of_ble_eq_true rfl)
  rw [lg_entry_eq]
  generalize (lg_sl ([.ref (E.2.1 g), .int a1]) ++ List.replicate (2 - (lg_sl ([.ref (E.2.1 g), .int a1])).length) Slot.unset).toArray = ls at hl ⊢
  have hl : lv_has ls 2 [(0, .ref (E.2.1 g)), (1, .int a1)] := hl
  unfold f_X2_priceAt at hf
  refine lv_aload_n hx hb dX2_priceAt_0 rfl (lv_at hl 0 rfl) ?_
  refine lv_iload_n hx hb dX2_priceAt_1 rfl (lv_at hl 1 rfl) ?_
  refine mt_b1I hf (fun r2 hg1 hf => ?_)
  refine mt_goi (mt_runSU (i := g) (As := [.int a1]) (rest := []) ⟨hx, hb, hml, hown, hts⟩ hI hH (c_X9_priceAt l E g ci C0 T0 N0 hT0 hc0 a1 M u _ hg1) (va_cwSU 1 hts gX2_priceAt_X9_priceAt_s7 rfl rfl rfl (by decide +kernel) ⟨Nat.le_of_ble_eq_true rfl, Nat.le_of_ble_eq_true rfl⟩) hT0 hc0 rfl hl.1 rfl (Nat.le_of_ble_eq_true rfl) dX2_priceAt_2 ⟨Nat.zero_le _, Nat.zero_le _⟩) hS (fun H locs hH hS => ?_)
  refine lv_iconst (v := 3) hx hb dX2_priceAt_5 (by decide) ?_
  refine lv_iadd hx hb dX2_priceAt_6 ?_
  have i1 := mt_so1 hf
  subst i1
  exact mt_iret hx hb hr hI hH hS hlocks dX2_priceAt_7
set_option maxHeartbeats 4000000 in
set_option maxRecDepth 100000 in
theorem c_X2_lostOf (l : Launch) (E : mt_E) (g ci : Nat) (C0 : String) (T0 : u_T) (N0 : Nat) (hT0 : mt_T g = (1, ci, [])) (hc0 : vwCl[ci]? = some (C0, T0, N0)) (a1 : Int32) (a2 : Int32) (M : mt_M) (u : mt_U) (r : Int32) (hf : f_X2_lostOf a1 a2 = some (r)) : Met l yX2_lostOf wsX2_lostOf ({ frames := 0, cells := 0, slots := 0, locals := 0 } : Room) (mt_P E [.ref (E.2.1 g), .int a1, .int a2] M u) (mt_Qi E r M u) 0 0 (mt_A E) := by
  refine Met.ofW (cc := cX2_lostOf) (maxL := 3) (ret := (some .int)) (by decide) rfl ?_
  intro p e s mid args below meth c0 s₁ B hml hv
  obtain ⟨rfl, hI, hH⟩ := hv
  have hx := B.exec
  have hb := B.bytes
  have hr := B.returns
  have hts := atoms_spec (ws := wsX2_lostOf) B.pre
  have hown : s.vm.findClass RX2 = some mid.cls := findClass_of_methodNamed B.named
  have hlocks := B.notSynchronized
  have hS : va_S (mt_A E) s.heap s.heap [] := va_S.rf
  have hl := lv_entry ([.ref (E.2.1 g), .int a1, .int a2]) (n := 3) (Nat.le_of_ble_eq_true rfl)
  rw [lg_entry_eq]
  generalize (lg_sl ([.ref (E.2.1 g), .int a1, .int a2]) ++ List.replicate (3 - (lg_sl ([.ref (E.2.1 g), .int a1, .int a2])).length) Slot.unset).toArray = ls at hl ⊢
  have hl : lv_has ls 3 [(0, .ref (E.2.1 g)), (1, .int a1), (2, .int a2)] := hl
  unfold f_X2_lostOf at hf
  refine lv_iload_n hx hb dX2_lostOf_0 rfl (lv_at hl 1 rfl) ?_
  refine lv_iload_n hx hb dX2_lostOf_1 rfl (lv_at hl 2 rfl) ?_
  refine lv_icmp_le (tgt := 11) hx hb dX2_lostOf_2 (by decide) (fun c1 => ?_) (fun c1 => ?_)
  · have hf := mt_ifT c1 hf
    refine lv_iconst (v := 0) hx hb dX2_lostOf_11 (by decide) ?_
    have i1 := mt_so1 hf
    subst i1
    exact mt_iret hx hb hr hI hH hS hlocks dX2_lostOf_12
  · have hf := mt_ifF c1 hf
    refine lv_iload_n hx hb dX2_lostOf_5 rfl (lv_at hl 1 rfl) ?_
    refine lv_iload_n hx hb dX2_lostOf_6 rfl (lv_at hl 2 rfl) ?_
    refine lv_isub hx hb dX2_lostOf_7 ?_
    refine lv_goto (tgt := 12) hx hb dX2_lostOf_8 (by decide) ?_
    have i1 := mt_so1 hf
    subst i1
    exact mt_iret hx hb hr hI hH hS hlocks dX2_lostOf_12
set_option maxHeartbeats 4000000 in
set_option maxRecDepth 100000 in
theorem c_X10_priceAt (l : Launch) (E : mt_E) (g ci : Nat) (C0 : String) (T0 : u_T) (N0 : Nat) (hT0 : mt_T g = (1, ci, [])) (hc0 : vwCl[ci]? = some (C0, T0, N0)) (a1 : Int32) (M : mt_M) (u : mt_U) (r : Int32) (hf : f_X10_priceAt a1 = some (r)) : Met l yX10_priceAt wsX10_priceAt ({ frames := 1, cells := 0, slots := 0, locals := 21 } : Room) (mt_P E [.ref (E.2.1 g), .int a1] M u) (mt_Qi E r M u) 0 0 (mt_A E) := by
  refine Met.ofW (cc := cX10_priceAt) (maxL := 2) (ret := (some .int)) (by decide) rfl ?_
  intro p e s mid args below meth c0 s₁ B hml hv
  obtain ⟨rfl, hI, hH⟩ := hv
  have hx := B.exec
  have hb := B.bytes
  have hr := B.returns
  have hts := atoms_spec (ws := wsX10_priceAt) B.pre
  have hown : s.vm.findClass RX10 = some mid.cls := findClass_of_methodNamed B.named
  have hlocks := B.notSynchronized
  have hS : va_S (mt_A E) s.heap s.heap [] := va_S.rf
  have hl := lv_entry ([.ref (E.2.1 g), .int a1]) (n := 2) (Nat.le_of_ble_eq_true rfl)
  rw [lg_entry_eq]
  generalize (lg_sl ([.ref (E.2.1 g), .int a1]) ++ List.replicate (2 - (lg_sl ([.ref (E.2.1 g), .int a1])).length) Slot.unset).toArray = ls at hl ⊢
  have hl : lv_has ls 2 [(0, .ref (E.2.1 g)), (1, .int a1)] := hl
  unfold f_X10_priceAt at hf
  refine lv_aload_n hx hb dX10_priceAt_0 rfl (lv_at hl 0 rfl) ?_
  refine lv_iload_n hx hb dX10_priceAt_1 rfl (lv_at hl 1 rfl) ?_
  refine mt_b1I hf (fun r2 hg1 hf => ?_)
  refine mt_goi (mt_runSI (i := g) (As := [.int a1]) (rest := []) ⟨hx, hb, hml, hown, hts⟩ hI hH (c_X6_priceAt l E g ci C0 T0 N0 hT0 hc0 a1 M u _ hg1) (mt_siK hI RX10 (List.mem_of_getElem? (i := 1) rfl) (List.mem_of_getElem? (i := 4) rfl) ⟨Nat.le_of_ble_eq_true rfl, Nat.le_of_ble_eq_true rfl⟩) ⟨rfl, rfl⟩ hT0 hc0 rfl hl.1 rfl (Nat.le_of_ble_eq_true rfl) dX10_priceAt_2 ⟨Nat.zero_le _, Nat.zero_le _⟩) hS (fun H locs hH hS => ?_)
  refine lv_iconst (v := 1) hx hb dX10_priceAt_5 (by decide) ?_
  refine lv_isub hx hb dX10_priceAt_6 ?_
  have i1 := mt_so1 hf
  subst i1
  exact mt_iret hx hb hr hI hH hS hlocks dX10_priceAt_7
set_option maxHeartbeats 4000000 in
set_option maxRecDepth 100000 in
theorem c_X10_packSize (l : Launch) (E : mt_E) (g ci : Nat) (C0 : String) (T0 : u_T) (N0 : Nat) (hT0 : mt_T g = (1, ci, [])) (hc0 : vwCl[ci]? = some (C0, T0, N0)) (M : mt_M) (u : mt_U) (r : Int32) (hf : f_X10_packSize  = some (r)) : Met l yX10_packSize wsX10_packSize ({ frames := 1, cells := 0, slots := 0, locals := 20 } : Room) (mt_P E [.ref (E.2.1 g)] M u) (mt_Qi E r M u) 0 0 (mt_A E) := by
  refine Met.ofW (cc := cX10_packSize) (maxL := 1) (ret := (some .int)) (by decide) rfl ?_
  intro p e s mid args below meth c0 s₁ B hml hv
  obtain ⟨rfl, hI, hH⟩ := hv
  have hx := B.exec
  have hb := B.bytes
  have hr := B.returns
  have hts := atoms_spec (ws := wsX10_packSize) B.pre
  have hown : s.vm.findClass RX10 = some mid.cls := findClass_of_methodNamed B.named
  have hlocks := B.notSynchronized
  have hS : va_S (mt_A E) s.heap s.heap [] := va_S.rf
  have hl := lv_entry ([.ref (E.2.1 g)]) (n := 1) (Nat.le_of_ble_eq_true rfl)
  rw [lg_entry_eq]
  generalize (lg_sl ([.ref (E.2.1 g)]) ++ List.replicate (1 - (lg_sl ([.ref (E.2.1 g)])).length) Slot.unset).toArray = ls at hl ⊢
  have hl : lv_has ls 1 [(0, .ref (E.2.1 g))] := hl
  unfold f_X10_packSize at hf
  refine lv_iconst (v := 2) hx hb dX10_packSize_0 (by decide) ?_
  refine lv_aload_n hx hb dX10_packSize_1 rfl (lv_at hl 0 rfl) ?_
  refine mt_b1I hf (fun r2 hg1 hf => ?_)
  refine mt_goi (mt_runSU (i := g) (As := []) (rest := [.int (2 : Int32)]) ⟨hx, hb, hml, hown, hts⟩ hI hH (c_X5_packSize l E g ci C0 T0 N0 hT0 hc0 M u _ hg1) (va_cwSU 0 hts gX10_packSize_X5_packSize_s11 rfl rfl rfl (by decide +kernel) ⟨Nat.le_of_ble_eq_true rfl, Nat.le_of_ble_eq_true rfl⟩) hT0 hc0 rfl hl.1 rfl (Nat.le_of_ble_eq_true rfl) dX10_packSize_2 ⟨Nat.zero_le _, Nat.zero_le _⟩) hS (fun H locs hH hS => ?_)
  refine lv_imul hx hb dX10_packSize_5 ?_
  have i1 := mt_so1 hf
  subst i1
  exact mt_iret hx hb hr hI hH hS hlocks dX10_packSize_6
set_option maxHeartbeats 4000000 in
set_option maxRecDepth 100000 in
theorem c_X10_harmOfTwo (l : Launch) (E : mt_E) (g ci : Nat) (C0 : String) (T0 : u_T) (N0 : Nat) (hT0 : mt_T g = (1, ci, [])) (hc0 : vwCl[ci]? = some (C0, T0, N0)) (a1 : Int32) (M : mt_M) (u : mt_U) (r : Int32) (hf : f_X10_harmOfTwo a1 = some (r)) : Met l yX10_harmOfTwo wsX10_harmOfTwo ({ frames := 0, cells := 0, slots := 0, locals := 0 } : Room) (mt_P E [.ref (E.2.1 g), .int a1] M u) (mt_Qi E r M u) 0 0 (mt_A E) := by
  refine Met.ofW (cc := cX10_harmOfTwo) (maxL := 2) (ret := (some .int)) (by decide) rfl ?_
  intro p e s mid args below meth c0 s₁ B hml hv
  obtain ⟨rfl, hI, hH⟩ := hv
  have hx := B.exec
  have hb := B.bytes
  have hr := B.returns
  have hts := atoms_spec (ws := wsX10_harmOfTwo) B.pre
  have hown : s.vm.findClass RX10 = some mid.cls := findClass_of_methodNamed B.named
  have hlocks := B.notSynchronized
  have hS : va_S (mt_A E) s.heap s.heap [] := va_S.rf
  have hl := lv_entry ([.ref (E.2.1 g), .int a1]) (n := 2) (Nat.le_of_ble_eq_true rfl)
  rw [lg_entry_eq]
  generalize (lg_sl ([.ref (E.2.1 g), .int a1]) ++ List.replicate (2 - (lg_sl ([.ref (E.2.1 g), .int a1])).length) Slot.unset).toArray = ls at hl ⊢
  have hl : lv_has ls 2 [(0, .ref (E.2.1 g)), (1, .int a1)] := hl
  unfold f_X10_harmOfTwo at hf
  refine lv_iconst (v := 1) hx hb dX10_harmOfTwo_0 (by decide) ?_
  have i1 := mt_so1 hf
  subst i1
  exact mt_iret hx hb hr hI hH hS hlocks dX10_harmOfTwo_1
set_option maxHeartbeats 4000000 in
set_option maxRecDepth 100000 in
theorem c_X0_become (l : Launch) (E : mt_E) (c : Nat) (hc : mt_cup c) (o1 : Nat) (hc1 : mt_cup o1) (M : mt_M) (u : mt_U) (M' : mt_M) (hf : f_X0_become c o1 M = some (M')) : Met l yX0_become wsX0_become ({ frames := 1, cells := 0, slots := 0, locals := 26 } : Room) (mt_P E [.ref (E.2.1 c), .ref (E.2.1 o1)] M u) (mt_Qv E M' u) 0 0 (mt_A E) := by
  refine Met.ofW (cc := cX0_become) (maxL := 2) (ret := none) (by decide) rfl ?_
  intro p e s mid args below meth c0 s₁ B hml hv
  obtain ⟨rfl, hI, hH⟩ := hv
  have hx := B.exec
  have hb := B.bytes
  have hr := B.returns
  have hts := atoms_spec (ws := wsX0_become) B.pre
  have hown : s.vm.findClass RX0 = some mid.cls := findClass_of_methodNamed B.named
  have hlocks := B.notSynchronized
  have hS : va_S (mt_A E) s.heap s.heap [] := va_S.rf
  have hl := lv_entry ([.ref (E.2.1 c), .ref (E.2.1 o1)]) (n := 2) (Nat.le_of_ble_eq_true rfl)
  rw [lg_entry_eq]
  generalize (lg_sl ([.ref (E.2.1 c), .ref (E.2.1 o1)]) ++ List.replicate (2 - (lg_sl ([.ref (E.2.1 c), .ref (E.2.1 o1)])).length) Slot.unset).toArray = ls at hl ⊢
  have hl : lv_has ls 2 [(0, .ref (E.2.1 c)), (1, .ref (E.2.1 o1))] := hl
  unfold f_X0_become at hf
  have kw0 := hts (.fieldLink RX0 9 "MilkTwice$Cupboard" "kind" "[I") (List.mem_of_getElem? (i := 1) rfl)
  have kw1 := hts (.methodLink RX0 37 arraycopyName) (List.mem_of_getElem? (i := 2) rfl)
  have kw2 := hts (.native arraycopyName) (List.mem_of_getElem? (i := 3) rfl)
  have kw3 := hts (.static arraycopyName) (List.mem_of_getElem? (i := 4) rfl)
  have kw4 := hts (.initialized "java/lang/System") (List.mem_of_getElem? (i := 5) rfl)
  have kw5 := hts (.fieldLink RX0 15 "MilkTwice$Cupboard" "figure" "[I") (List.mem_of_getElem? (i := 6) rfl)
  have kw6 := hts (.fieldLink RX0 18 "MilkTwice$Cupboard" "use" "[I") (List.mem_of_getElem? (i := 7) rfl)
  have kw7 := hts (.fieldLink RX0 21 "MilkTwice$Cupboard" "price" "[I") (List.mem_of_getElem? (i := 8) rfl)
  have kw8 := hts (.fieldLink RX0 24 "MilkTwice$Cupboard" "pack" "[I") (List.mem_of_getElem? (i := 9) rfl)
  have kw9 := hts (.fieldLink RX0 27 "MilkTwice$Cupboard" "stock" "[I") (List.mem_of_getElem? (i := 10) rfl)
  have kw10 := hts (.fieldLink RX0 43 "MilkTwice$Cupboard" "things" "I") (List.mem_of_getElem? (i := 11) rfl)
  have kw11 := hts (.fieldLink RX0 47 "MilkTwice$Cupboard" "pence" "I") (List.mem_of_getElem? (i := 12) rfl)
  have kw12 := hts (.fieldLink RX0 50 "MilkTwice$Cupboard" "lacked" "I") (List.mem_of_getElem? (i := 13) rfl)
  have kw13 := hts (.fieldLink RX0 53 "MilkTwice$Cupboard" "spoilt" "I") (List.mem_of_getElem? (i := 14) rfl)
  have hinX0 : ∀ w ∈ u_ws RX0 TX0 12, w ∈ wsX0_become := fun w h => List.mem_cons_of_mem _ (List.mem_append_right _ h)
  refine lv_aload_n hx hb dX0_become_0 rfl (lv_at hl 1 rfl) ?_
  refine mt_getr (C := RX0) (T := TX0) (N := 12) hx hb hts hinX0 hown hI hH (mt_T_cup hc1) rfl 1 (by decide) kw0 rfl rfl dX0_become_1 ?_
  refine lv_iconst (v := 0) hx hb dX0_become_4 (by decide) ?_
  refine lv_aload_n hx hb dX0_become_5 rfl (lv_at hl 0 rfl) ?_
  refine mt_getr (C := RX0) (T := TX0) (N := 12) hx hb hts hinX0 hown hI hH (mt_T_cup hc) rfl 1 (by decide) kw0 rfl rfl dX0_become_6 ?_
  refine lv_iconst (v := 0) hx hb dX0_become_9 (by decide) ?_
  refine lv_bipush (v := 7) hx hb dX0_become_10 (by decide) ?_
  refine mt_copy hx hb (hml.trans hl.1.symm) hown kw1 kw2 kw3 kw4 hI hH hS (mt_T_cupA hc1 1 (by decide) (by decide)) (mt_T_cupA hc 1 (by decide) (by decide)) (by decide) (by decide) (Nat.le_of_ble_eq_true rfl) (Nat.le_of_ble_eq_true rfl) dX0_become_12 (fun H locs hH hS => ?_)
  refine mt_ltI hf (fun M1 eM1 hf => ?_)
  rw [← eM1] at hH
  refine lv_aload_n hx hb dX0_become_15 rfl (lv_at hl 1 rfl) ?_
  refine mt_getr (C := RX0) (T := TX0) (N := 12) hx hb hts hinX0 hown hI hH (mt_T_cup hc1) rfl 2 (by decide) kw5 rfl rfl dX0_become_16 ?_
  refine lv_iconst (v := 0) hx hb dX0_become_19 (by decide) ?_
  refine lv_aload_n hx hb dX0_become_20 rfl (lv_at hl 0 rfl) ?_
  refine mt_getr (C := RX0) (T := TX0) (N := 12) hx hb hts hinX0 hown hI hH (mt_T_cup hc) rfl 2 (by decide) kw5 rfl rfl dX0_become_21 ?_
  refine lv_iconst (v := 0) hx hb dX0_become_24 (by decide) ?_
  refine lv_bipush (v := 7) hx hb dX0_become_25 (by decide) ?_
  refine mt_copy hx hb (hml.trans hl.1.symm) hown kw1 kw2 kw3 kw4 hI hH hS (mt_T_cupA hc1 2 (by decide) (by decide)) (mt_T_cupA hc 2 (by decide) (by decide)) (by decide) (by decide) (Nat.le_of_ble_eq_true rfl) (Nat.le_of_ble_eq_true rfl) dX0_become_27 (fun H locs hH hS => ?_)
  refine mt_ltI hf (fun M2 eM2 hf => ?_)
  rw [← eM2] at hH
  refine lv_aload_n hx hb dX0_become_30 rfl (lv_at hl 1 rfl) ?_
  refine mt_getr (C := RX0) (T := TX0) (N := 12) hx hb hts hinX0 hown hI hH (mt_T_cup hc1) rfl 3 (by decide) kw6 rfl rfl dX0_become_31 ?_
  refine lv_iconst (v := 0) hx hb dX0_become_34 (by decide) ?_
  refine lv_aload_n hx hb dX0_become_35 rfl (lv_at hl 0 rfl) ?_
  refine mt_getr (C := RX0) (T := TX0) (N := 12) hx hb hts hinX0 hown hI hH (mt_T_cup hc) rfl 3 (by decide) kw6 rfl rfl dX0_become_36 ?_
  refine lv_iconst (v := 0) hx hb dX0_become_39 (by decide) ?_
  refine lv_bipush (v := 7) hx hb dX0_become_40 (by decide) ?_
  refine mt_copy hx hb (hml.trans hl.1.symm) hown kw1 kw2 kw3 kw4 hI hH hS (mt_T_cupA hc1 3 (by decide) (by decide)) (mt_T_cupA hc 3 (by decide) (by decide)) (by decide) (by decide) (Nat.le_of_ble_eq_true rfl) (Nat.le_of_ble_eq_true rfl) dX0_become_42 (fun H locs hH hS => ?_)
  refine mt_ltI hf (fun M3 eM3 hf => ?_)
  rw [← eM3] at hH
  refine lv_aload_n hx hb dX0_become_45 rfl (lv_at hl 1 rfl) ?_
  refine mt_getr (C := RX0) (T := TX0) (N := 12) hx hb hts hinX0 hown hI hH (mt_T_cup hc1) rfl 4 (by decide) kw7 rfl rfl dX0_become_46 ?_
  refine lv_iconst (v := 0) hx hb dX0_become_49 (by decide) ?_
  refine lv_aload_n hx hb dX0_become_50 rfl (lv_at hl 0 rfl) ?_
  refine mt_getr (C := RX0) (T := TX0) (N := 12) hx hb hts hinX0 hown hI hH (mt_T_cup hc) rfl 4 (by decide) kw7 rfl rfl dX0_become_51 ?_
  refine lv_iconst (v := 0) hx hb dX0_become_54 (by decide) ?_
  refine lv_bipush (v := 7) hx hb dX0_become_55 (by decide) ?_
  refine mt_copy hx hb (hml.trans hl.1.symm) hown kw1 kw2 kw3 kw4 hI hH hS (mt_T_cupA hc1 4 (by decide) (by decide)) (mt_T_cupA hc 4 (by decide) (by decide)) (by decide) (by decide) (Nat.le_of_ble_eq_true rfl) (Nat.le_of_ble_eq_true rfl) dX0_become_57 (fun H locs hH hS => ?_)
  refine mt_ltI hf (fun M4 eM4 hf => ?_)
  rw [← eM4] at hH
  refine lv_aload_n hx hb dX0_become_60 rfl (lv_at hl 1 rfl) ?_
  refine mt_getr (C := RX0) (T := TX0) (N := 12) hx hb hts hinX0 hown hI hH (mt_T_cup hc1) rfl 5 (by decide) kw8 rfl rfl dX0_become_61 ?_
  refine lv_iconst (v := 0) hx hb dX0_become_64 (by decide) ?_
  refine lv_aload_n hx hb dX0_become_65 rfl (lv_at hl 0 rfl) ?_
  refine mt_getr (C := RX0) (T := TX0) (N := 12) hx hb hts hinX0 hown hI hH (mt_T_cup hc) rfl 5 (by decide) kw8 rfl rfl dX0_become_66 ?_
  refine lv_iconst (v := 0) hx hb dX0_become_69 (by decide) ?_
  refine lv_bipush (v := 7) hx hb dX0_become_70 (by decide) ?_
  refine mt_copy hx hb (hml.trans hl.1.symm) hown kw1 kw2 kw3 kw4 hI hH hS (mt_T_cupA hc1 5 (by decide) (by decide)) (mt_T_cupA hc 5 (by decide) (by decide)) (by decide) (by decide) (Nat.le_of_ble_eq_true rfl) (Nat.le_of_ble_eq_true rfl) dX0_become_72 (fun H locs hH hS => ?_)
  refine mt_ltI hf (fun M5 eM5 hf => ?_)
  rw [← eM5] at hH
  refine lv_aload_n hx hb dX0_become_75 rfl (lv_at hl 1 rfl) ?_
  refine mt_getr (C := RX0) (T := TX0) (N := 12) hx hb hts hinX0 hown hI hH (mt_T_cup hc1) rfl 6 (by decide) kw9 rfl rfl dX0_become_76 ?_
  refine lv_iconst (v := 0) hx hb dX0_become_79 (by decide) ?_
  refine lv_aload_n hx hb dX0_become_80 rfl (lv_at hl 0 rfl) ?_
  refine mt_getr (C := RX0) (T := TX0) (N := 12) hx hb hts hinX0 hown hI hH (mt_T_cup hc) rfl 6 (by decide) kw9 rfl rfl dX0_become_81 ?_
  refine lv_iconst (v := 0) hx hb dX0_become_84 (by decide) ?_
  refine lv_bipush (v := 7) hx hb dX0_become_85 (by decide) ?_
  refine mt_copy hx hb (hml.trans hl.1.symm) hown kw1 kw2 kw3 kw4 hI hH hS (mt_T_cupA hc1 6 (by decide) (by decide)) (mt_T_cupA hc 6 (by decide) (by decide)) (by decide) (by decide) (Nat.le_of_ble_eq_true rfl) (Nat.le_of_ble_eq_true rfl) dX0_become_87 (fun H locs hH hS => ?_)
  refine mt_ltI hf (fun M6 eM6 hf => ?_)
  rw [← eM6] at hH
  refine lv_aload_n hx hb dX0_become_90 rfl (lv_at hl 0 rfl) ?_
  refine lv_aload_n hx hb dX0_become_91 rfl (lv_at hl 1 rfl) ?_
  refine mt_geti (C := RX0) (T := TX0) (N := 12) hx hb hts hinX0 hown hI hH (mt_T_cup hc1) rfl 8 (by decide) kw10 rfl rfl dX0_become_92 ?_
  refine mt_puti (ty := .int) (C := RX0) (T := TX0) (N := 12) hx hb hts hinX0 tyX0 tyX0_ok nmX0 hown hI hH hS (mt_T_cup hc) rfl 8 (by decide) kw10 rfl rfl (by decide +kernel) rfl rfl rfl dX0_become_95 (fun H locs hH hS => ?_)
  refine mt_ltI hf (fun M7 eM7 hf => ?_)
  rw [← eM7] at hH
  refine lv_aload_n hx hb dX0_become_98 rfl (lv_at hl 0 rfl) ?_
  refine lv_aload_n hx hb dX0_become_99 rfl (lv_at hl 1 rfl) ?_
  refine mt_geti (C := RX0) (T := TX0) (N := 12) hx hb hts hinX0 hown hI hH (mt_T_cup hc1) rfl 9 (by decide) kw11 rfl rfl dX0_become_100 ?_
  refine mt_puti (ty := .int) (C := RX0) (T := TX0) (N := 12) hx hb hts hinX0 tyX0 tyX0_ok nmX0 hown hI hH hS (mt_T_cup hc) rfl 9 (by decide) kw11 rfl rfl (by decide +kernel) rfl rfl rfl dX0_become_103 (fun H locs hH hS => ?_)
  refine mt_ltI hf (fun M8 eM8 hf => ?_)
  rw [← eM8] at hH
  refine lv_aload_n hx hb dX0_become_106 rfl (lv_at hl 0 rfl) ?_
  refine lv_aload_n hx hb dX0_become_107 rfl (lv_at hl 1 rfl) ?_
  refine mt_geti (C := RX0) (T := TX0) (N := 12) hx hb hts hinX0 hown hI hH (mt_T_cup hc1) rfl 10 (by decide) kw12 rfl rfl dX0_become_108 ?_
  refine mt_puti (ty := .int) (C := RX0) (T := TX0) (N := 12) hx hb hts hinX0 tyX0 tyX0_ok nmX0 hown hI hH hS (mt_T_cup hc) rfl 10 (by decide) kw12 rfl rfl (by decide +kernel) rfl rfl rfl dX0_become_111 (fun H locs hH hS => ?_)
  refine mt_ltI hf (fun M9 eM9 hf => ?_)
  rw [← eM9] at hH
  refine lv_aload_n hx hb dX0_become_114 rfl (lv_at hl 0 rfl) ?_
  refine lv_aload_n hx hb dX0_become_115 rfl (lv_at hl 1 rfl) ?_
  refine mt_geti (C := RX0) (T := TX0) (N := 12) hx hb hts hinX0 hown hI hH (mt_T_cup hc1) rfl 11 (by decide) kw13 rfl rfl dX0_become_116 ?_
  refine mt_puti (ty := .int) (C := RX0) (T := TX0) (N := 12) hx hb hts hinX0 tyX0 tyX0_ok nmX0 hown hI hH hS (mt_T_cup hc) rfl 11 (by decide) kw13 rfl rfl (by decide +kernel) rfl rfl rfl dX0_become_119 (fun H locs hH hS => ?_)
  refine mt_ltI hf (fun M10 eM10 hf => ?_)
  rw [← eM10] at hH
  have i1 := mt_so1 hf
  subst i1
  exact mt_vret hx hb hr hI hH hS hlocks dX0_become_122
set_option maxHeartbeats 4000000 in
set_option maxRecDepth 100000 in
theorem c_X0_forgetTallies (l : Launch) (E : mt_E) (c : Nat) (hc : mt_cup c) (M : mt_M) (u : mt_U) (M' : mt_M) (hf : f_X0_forgetTallies c M = some (M')) : Met l yX0_forgetTallies wsX0_forgetTallies ({ frames := 0, cells := 0, slots := 0, locals := 0 } : Room) (mt_P E [.ref (E.2.1 c)] M u) (mt_Qv E M' u) 0 0 (mt_A E) := by
  refine Met.ofW (cc := cX0_forgetTallies) (maxL := 1) (ret := none) (by decide) rfl ?_
  intro p e s mid args below meth c0 s₁ B hml hv
  obtain ⟨rfl, hI, hH⟩ := hv
  have hx := B.exec
  have hb := B.bytes
  have hr := B.returns
  have hts := atoms_spec (ws := wsX0_forgetTallies) B.pre
  have hown : s.vm.findClass RX0 = some mid.cls := findClass_of_methodNamed B.named
  have hlocks := B.notSynchronized
  have hS : va_S (mt_A E) s.heap s.heap [] := va_S.rf
  have hl := lv_entry ([.ref (E.2.1 c)]) (n := 1) (Nat.le_of_ble_eq_true rfl)
  rw [lg_entry_eq]
  generalize (lg_sl ([.ref (E.2.1 c)]) ++ List.replicate (1 - (lg_sl ([.ref (E.2.1 c)])).length) Slot.unset).toArray = ls at hl ⊢
  have hl : lv_has ls 1 [(0, .ref (E.2.1 c))] := hl
  unfold f_X0_forgetTallies at hf
  have kw0 := hts (.fieldLink RX0 47 "MilkTwice$Cupboard" "pence" "I") (List.mem_of_getElem? (i := 1) rfl)
  have kw1 := hts (.fieldLink RX0 50 "MilkTwice$Cupboard" "lacked" "I") (List.mem_of_getElem? (i := 2) rfl)
  have kw2 := hts (.fieldLink RX0 53 "MilkTwice$Cupboard" "spoilt" "I") (List.mem_of_getElem? (i := 3) rfl)
  have hinX0 : ∀ w ∈ u_ws RX0 TX0 12, w ∈ wsX0_forgetTallies := fun w h => List.mem_cons_of_mem _ (List.mem_append_right _ h)
  refine lv_aload_n hx hb dX0_forgetTallies_0 rfl (lv_at hl 0 rfl) ?_
  refine lv_iconst (v := 0) hx hb dX0_forgetTallies_1 (by decide) ?_
  refine mt_puti (ty := .int) (C := RX0) (T := TX0) (N := 12) hx hb hts hinX0 tyX0 tyX0_ok nmX0 hown hI hH hS (mt_T_cup hc) rfl 9 (by decide) kw0 rfl rfl (by decide +kernel) rfl rfl rfl dX0_forgetTallies_2 (fun H locs hH hS => ?_)
  refine mt_ltI hf (fun M1 eM1 hf => ?_)
  rw [← eM1] at hH
  refine lv_aload_n hx hb dX0_forgetTallies_5 rfl (lv_at hl 0 rfl) ?_
  refine lv_iconst (v := 0) hx hb dX0_forgetTallies_6 (by decide) ?_
  refine mt_puti (ty := .int) (C := RX0) (T := TX0) (N := 12) hx hb hts hinX0 tyX0 tyX0_ok nmX0 hown hI hH hS (mt_T_cup hc) rfl 10 (by decide) kw1 rfl rfl (by decide +kernel) rfl rfl rfl dX0_forgetTallies_7 (fun H locs hH hS => ?_)
  refine mt_ltI hf (fun M2 eM2 hf => ?_)
  rw [← eM2] at hH
  refine lv_aload_n hx hb dX0_forgetTallies_10 rfl (lv_at hl 0 rfl) ?_
  refine lv_iconst (v := 0) hx hb dX0_forgetTallies_11 (by decide) ?_
  refine mt_puti (ty := .int) (C := RX0) (T := TX0) (N := 12) hx hb hts hinX0 tyX0 tyX0_ok nmX0 hown hI hH hS (mt_T_cup hc) rfl 11 (by decide) kw2 rfl rfl (by decide +kernel) rfl rfl rfl dX0_forgetTallies_12 (fun H locs hH hS => ?_)
  refine mt_ltI hf (fun M3 eM3 hf => ?_)
  rw [← eM3] at hH
  have i1 := mt_so1 hf
  subst i1
  exact mt_vret hx hb hr hI hH hS hlocks dX0_forgetTallies_15
set_option maxHeartbeats 4000000 in
set_option maxRecDepth 100000 in
theorem c_X0_has (l : Launch) (E : mt_E) (c : Nat) (hc : mt_cup c) (a1 : Int32) (M : mt_M) (u : mt_U) (r : Int32) (hf : f_X0_has c a1 M = some (r)) : Met l yX0_has wsX0_has ({ frames := 0, cells := 0, slots := 0, locals := 0 } : Room) (mt_P E [.ref (E.2.1 c), .int a1] M u) (mt_Qi E r M u) 0 0 (mt_A E) := by
  refine Met.ofW (cc := cX0_has) (maxL := 2) (ret := (some .boolean)) (by decide) rfl ?_
  intro p e s mid args below meth c0 s₁ B hml hv
  obtain ⟨rfl, hI, hH⟩ := hv
  have hx := B.exec
  have hb := B.bytes
  have hr := B.returns
  have hts := atoms_spec (ws := wsX0_has) B.pre
  have hown : s.vm.findClass RX0 = some mid.cls := findClass_of_methodNamed B.named
  have hlocks := B.notSynchronized
  have hS : va_S (mt_A E) s.heap s.heap [] := va_S.rf
  have hl := lv_entry ([.ref (E.2.1 c), .int a1]) (n := 2) (Nat.le_of_ble_eq_true rfl)
  rw [lg_entry_eq]
  generalize (lg_sl ([.ref (E.2.1 c), .int a1]) ++ List.replicate (2 - (lg_sl ([.ref (E.2.1 c), .int a1])).length) Slot.unset).toArray = ls at hl ⊢
  have hl : lv_has ls 2 [(0, .ref (E.2.1 c)), (1, .int a1)] := hl
  unfold f_X0_has at hf
  have kw0 := hts (.fieldLink RX0 43 "MilkTwice$Cupboard" "things" "I") (List.mem_of_getElem? (i := 1) rfl)
  have hinX0 : ∀ w ∈ u_ws RX0 TX0 12, w ∈ wsX0_has := fun w h => List.mem_cons_of_mem _ (List.mem_append_right _ h)
  refine lv_iload_n hx hb dX0_has_0 rfl (lv_at hl 1 rfl) ?_
  refine lv_if_lt (tgt := 16) hx hb dX0_has_1 (by decide) (fun c1 => ?_) (fun c1 => ?_)
  · have hf := mt_ifT c1 hf
    refine lv_iconst (v := 0) hx hb dX0_has_16 (by decide) ?_
    have i1 := mt_so1 hf
    subst i1
    exact mt_zret hx hb hr hI hH hS (by decide) hlocks dX0_has_17
  · have hf := mt_ifF c1 hf
    refine lv_iload_n hx hb dX0_has_4 rfl (lv_at hl 1 rfl) ?_
    refine lv_aload_n hx hb dX0_has_5 rfl (lv_at hl 0 rfl) ?_
    refine mt_geti (C := RX0) (T := TX0) (N := 12) hx hb hts hinX0 hown hI hH (mt_T_cup hc) rfl 8 (by decide) kw0 rfl rfl dX0_has_6 ?_
    refine lv_icmp_ge (tgt := 16) hx hb dX0_has_9 (by decide) (fun c2 => ?_) (fun c2 => ?_)
    · have hf := mt_ifT c2 hf
      refine lv_iconst (v := 0) hx hb dX0_has_16 (by decide) ?_
      have i1 := mt_so1 hf
      subst i1
      exact mt_zret hx hb hr hI hH hS (by decide) hlocks dX0_has_17
    · have hf := mt_ifF c2 hf
      refine lv_iconst (v := 1) hx hb dX0_has_12 (by decide) ?_
      refine lv_goto (tgt := 17) hx hb dX0_has_13 (by decide) ?_
      have i1 := mt_so1 hf
      subst i1
      exact mt_zret hx hb hr hI hH hS (by decide) hlocks dX0_has_17
set_option maxHeartbeats 4000000 in
set_option maxRecDepth 100000 in
theorem c_X0_bitsOfAll (l : Launch) (E : mt_E) (c : Nat) (hc : mt_cup c) (M : mt_M) (u : mt_U) (r : Int32) (hf : f_X0_bitsOfAll c M = some (r)) : Met l yX0_bitsOfAll wsX0_bitsOfAll ({ frames := 0, cells := 0, slots := 0, locals := 0 } : Room) (mt_P E [.ref (E.2.1 c)] M u) (mt_Qi E r M u) 0 0 (mt_A E) := by
  refine Met.ofW (cc := cX0_bitsOfAll) (maxL := 1) (ret := (some .int)) (by decide) rfl ?_
  intro p e s mid args below meth c0 s₁ B hml hv
  obtain ⟨rfl, hI, hH⟩ := hv
  have hx := B.exec
  have hb := B.bytes
  have hr := B.returns
  have hts := atoms_spec (ws := wsX0_bitsOfAll) B.pre
  have hown : s.vm.findClass RX0 = some mid.cls := findClass_of_methodNamed B.named
  have hlocks := B.notSynchronized
  have hS : va_S (mt_A E) s.heap s.heap [] := va_S.rf
  have hl := lv_entry ([.ref (E.2.1 c)]) (n := 1) (Nat.le_of_ble_eq_true rfl)
  rw [lg_entry_eq]
  generalize (lg_sl ([.ref (E.2.1 c)]) ++ List.replicate (1 - (lg_sl ([.ref (E.2.1 c)])).length) Slot.unset).toArray = ls at hl ⊢
  have hl : lv_has ls 1 [(0, .ref (E.2.1 c))] := hl
  unfold f_X0_bitsOfAll at hf
  have kw0 := hts (.fieldLink RX0 43 "MilkTwice$Cupboard" "things" "I") (List.mem_of_getElem? (i := 1) rfl)
  have hinX0 : ∀ w ∈ u_ws RX0 TX0 12, w ∈ wsX0_bitsOfAll := fun w h => List.mem_cons_of_mem _ (List.mem_append_right _ h)
  refine lv_iconst (v := 1) hx hb dX0_bitsOfAll_0 (by decide) ?_
  refine lv_aload_n hx hb dX0_bitsOfAll_1 rfl (lv_at hl 0 rfl) ?_
  refine mt_geti (C := RX0) (T := TX0) (N := 12) hx hb hts hinX0 hown hI hH (mt_T_cup hc) rfl 8 (by decide) kw0 rfl rfl dX0_bitsOfAll_2 ?_
  refine lv_ishl hx hb dX0_bitsOfAll_5 ?_
  refine lv_iconst (v := 1) hx hb dX0_bitsOfAll_6 (by decide) ?_
  refine lv_isub hx hb dX0_bitsOfAll_7 ?_
  have i1 := mt_so1 hf
  subst i1
  exact mt_iret hx hb hr hI hH hS hlocks dX0_bitsOfAll_8
set_option maxHeartbeats 4000000 in
set_option maxRecDepth 100000 in
theorem c_X11_isOneOf (l : Launch) (E : mt_E) (a0 : Int32) (a1 : Int32) (M : mt_M) (u : mt_U) (r : Int32) (hf : f_X11_isOneOf a0 a1 = some (r)) : Met l yX11_isOneOf wsX11_isOneOf ({ frames := 0, cells := 0, slots := 0, locals := 0 } : Room) (mt_P E [.int a0, .int a1] M u) (mt_Qi E r M u) 0 0 (mt_A E) := by
  refine Met.ofW (cc := cX11_isOneOf) (maxL := 2) (ret := (some .boolean)) (by decide) rfl ?_
  intro p e s mid args below meth c0 s₁ B hml hv
  obtain ⟨rfl, hI, hH⟩ := hv
  have hx := B.exec
  have hb := B.bytes
  have hr := B.returns
  have hts := atoms_spec (ws := wsX11_isOneOf) B.pre
  have hown : s.vm.findClass RX11 = some mid.cls := findClass_of_methodNamed B.named
  have hlocks := B.notSynchronized
  have hS : va_S (mt_A E) s.heap s.heap [] := va_S.rf
  have hl := lv_entry ([.int a0, .int a1]) (n := 2) (Nat.le_of_ble_eq_true rfl)
  rw [lg_entry_eq]
  generalize (lg_sl ([.int a0, .int a1]) ++ List.replicate (2 - (lg_sl ([.int a0, .int a1])).length) Slot.unset).toArray = ls at hl ⊢
  have hl : lv_has ls 2 [(0, .int a0), (1, .int a1)] := hl
  unfold f_X11_isOneOf at hf
  refine lv_iload_n hx hb dX11_isOneOf_0 rfl (lv_at hl 0 rfl) ?_
  refine lv_if_lt (tgt := 13) hx hb dX11_isOneOf_1 (by decide) (fun c1 => ?_) (fun c1 => ?_)
  · have hf := mt_ifT c1 hf
    refine lv_iconst (v := 0) hx hb dX11_isOneOf_13 (by decide) ?_
    have i1 := mt_so1 hf
    subst i1
    exact mt_zret hx hb hr hI hH hS (by decide) hlocks dX11_isOneOf_14
  · have hf := mt_ifF c1 hf
    refine lv_iload_n hx hb dX11_isOneOf_4 rfl (lv_at hl 0 rfl) ?_
    refine lv_iload_n hx hb dX11_isOneOf_5 rfl (lv_at hl 1 rfl) ?_
    refine lv_icmp_gt (tgt := 13) hx hb dX11_isOneOf_6 (by decide) (fun c2 => ?_) (fun c2 => ?_)
    · have hf := mt_ifT c2 hf
      refine lv_iconst (v := 0) hx hb dX11_isOneOf_13 (by decide) ?_
      have i1 := mt_so1 hf
      subst i1
      exact mt_zret hx hb hr hI hH hS (by decide) hlocks dX11_isOneOf_14
    · have hf := mt_ifF c2 hf
      refine lv_iconst (v := 1) hx hb dX11_isOneOf_9 (by decide) ?_
      refine lv_goto (tgt := 14) hx hb dX11_isOneOf_10 (by decide) ?_
      have i1 := mt_so1 hf
      subst i1
      exact mt_zret hx hb hr hI hH hS (by decide) hlocks dX11_isOneOf_14
set_option maxHeartbeats 4000000 in
set_option maxRecDepth 100000 in
theorem c_X11_outside (l : Launch) (E : mt_E) (a0 : Int32) (a1 : Int32) (a2 : Int32) (M : mt_M) (u : mt_U) (r : Int32) (hf : f_X11_outside a0 a1 a2 = some (r)) : Met l yX11_outside wsX11_outside ({ frames := 0, cells := 0, slots := 0, locals := 0 } : Room) (mt_P E [.int a0, .int a1, .int a2] M u) (mt_Qi E r M u) 0 0 (mt_A E) := by
  refine Met.ofW (cc := cX11_outside) (maxL := 3) (ret := (some .int)) (by decide) rfl ?_
  intro p e s mid args below meth c0 s₁ B hml hv
  obtain ⟨rfl, hI, hH⟩ := hv
  have hx := B.exec
  have hb := B.bytes
  have hr := B.returns
  have hts := atoms_spec (ws := wsX11_outside) B.pre
  have hown : s.vm.findClass RX11 = some mid.cls := findClass_of_methodNamed B.named
  have hlocks := B.notSynchronized
  have hS : va_S (mt_A E) s.heap s.heap [] := va_S.rf
  have hl := lv_entry ([.int a0, .int a1, .int a2]) (n := 3) (Nat.le_of_ble_eq_true rfl)
  rw [lg_entry_eq]
  generalize (lg_sl ([.int a0, .int a1, .int a2]) ++ List.replicate (3 - (lg_sl ([.int a0, .int a1, .int a2])).length) Slot.unset).toArray = ls at hl ⊢
  have hl : lv_has ls 3 [(0, .int a0), (1, .int a1), (2, .int a2)] := hl
  unfold f_X11_outside at hf
  refine lv_iload_n hx hb dX11_outside_0 rfl (lv_at hl 0 rfl) ?_
  refine lv_iload_n hx hb dX11_outside_1 rfl (lv_at hl 1 rfl) ?_
  refine lv_icmp_ge (tgt := 10) hx hb dX11_outside_2 (by decide) (fun c1 => ?_) (fun c1 => ?_)
  · have hf := mt_ifT c1 hf
    refine lv_iload_n hx hb dX11_outside_10 rfl (lv_at hl 0 rfl) ?_
    refine lv_iload_n hx hb dX11_outside_11 rfl (lv_at hl 2 rfl) ?_
    refine lv_icmp_le (tgt := 20) hx hb dX11_outside_12 (by decide) (fun c2 => ?_) (fun c2 => ?_)
    · have hf := mt_ifT c2 hf
      refine lv_iconst (v := 0) hx hb dX11_outside_20 (by decide) ?_
      have i1 := mt_so1 hf
      subst i1
      exact mt_iret hx hb hr hI hH hS hlocks dX11_outside_21
    · have hf := mt_ifF c2 hf
      refine lv_bipush (v := (-6)) hx hb dX11_outside_15 (by decide) ?_
      refine lv_goto (tgt := 21) hx hb dX11_outside_17 (by decide) ?_
      have i1 := mt_so1 hf
      subst i1
      exact mt_iret hx hb hr hI hH hS hlocks dX11_outside_21
  · have hf := mt_ifF c1 hf
    refine lv_bipush (v := (-4)) hx hb dX11_outside_5 (by decide) ?_
    refine lv_goto (tgt := 21) hx hb dX11_outside_7 (by decide) ?_
    have i1 := mt_so1 hf
    subst i1
    exact mt_iret hx hb hr hI hH hS hlocks dX11_outside_21
set_option maxHeartbeats 4000000 in
set_option maxRecDepth 100000 in
theorem c_X11_eitherOutside (l : Launch) (E : mt_E) (a0 : Int32) (a1 : Int32) (a2 : Int32) (a3 : Int32) (M : mt_M) (u : mt_U) (r : Int32) (hf : f_X11_eitherOutside a0 a1 a2 a3 = some (r)) : Met l yX11_eitherOutside wsX11_eitherOutside ({ frames := 1, cells := 0, slots := 0, locals := 22 } : Room) (mt_P E [.int a0, .int a1, .int a2, .int a3] M u) (mt_Qi E r M u) 0 0 (mt_A E) := by
  refine Met.ofW (cc := cX11_eitherOutside) (maxL := 5) (ret := (some .int)) (by decide) rfl ?_
  intro p e s mid args below meth c0 s₁ B hml hv
  obtain ⟨rfl, hI, hH⟩ := hv
  have hx := B.exec
  have hb := B.bytes
  have hr := B.returns
  have hts := atoms_spec (ws := wsX11_eitherOutside) B.pre
  have hown : s.vm.findClass RX11 = some mid.cls := findClass_of_methodNamed B.named
  have hlocks := B.notSynchronized
  have hS : va_S (mt_A E) s.heap s.heap [] := va_S.rf
  have hl := lv_entry ([.int a0, .int a1, .int a2, .int a3]) (n := 5) (Nat.le_of_ble_eq_true rfl)
  rw [lg_entry_eq]
  generalize (lg_sl ([.int a0, .int a1, .int a2, .int a3]) ++ List.replicate (5 - (lg_sl ([.int a0, .int a1, .int a2, .int a3])).length) Slot.unset).toArray = ls at hl ⊢
  have hl : lv_has ls 5 [(0, .int a0), (1, .int a1), (2, .int a2), (3, .int a3)] := hl
  unfold f_X11_eitherOutside at hf
  have kw0 := hts (.methodLink RX11 78 Lib.Math.min.name) (List.mem_of_getElem? (i := 1) rfl)
  have kw1 := hts (.static Lib.Math.min.name) (List.mem_of_getElem? (i := 2) rfl)
  have kw2 := hts (.initialized "java/lang/Math") (List.mem_of_getElem? (i := 3) rfl)
  have kw3 := hts (.code Lib.Math.min.name Lib.Math.min.code 2 (some .int)) (List.mem_of_getElem? (i := 4) rfl)
  have kw4 := hts (.methodLink RX11 88 Lib.Math.max.name) (List.mem_of_getElem? (i := 5) rfl)
  have kw5 := hts (.static Lib.Math.max.name) (List.mem_of_getElem? (i := 6) rfl)
  have kw6 := hts (.code Lib.Math.max.name Lib.Math.max.code 2 (some .int)) (List.mem_of_getElem? (i := 7) rfl)
  refine lv_iload_n hx hb dX11_eitherOutside_0 rfl (lv_at hl 0 rfl) ?_
  refine lv_iload_n hx hb dX11_eitherOutside_1 rfl (lv_at hl 1 rfl) ?_
  refine va_mmin hx hb (hml.trans hl.1.symm) hown kw0 kw1 kw2 kw3 (Nat.le_of_ble_eq_true rfl) (Nat.le_of_ble_eq_true rfl) (Nat.zero_le _) (Nat.zero_le _) dX11_eitherOutside_2 ?_
  refine mt_lti hf (fun x1 ex1 hf => ?_)
  refine lv_iload_n hx hb dX11_eitherOutside_5 rfl (lv_at hl 2 rfl) ?_
  refine lv_iload_n hx hb dX11_eitherOutside_6 rfl (lv_at hl 3 rfl) ?_
  refine mt_b1I hf (fun r3 hg2 hf => ?_)
  refine mt_goi (mt_runS (As := [.int x1, .int a2, .int a3]) (rest := []) ⟨hx, hb, hml, hown, hts⟩ hI hH (c_X11_outside l E x1 a2 a3 M u _ hg2) (va_cwS 3 hts gX11_eitherOutside_X11_outside rfl rfl rfl (by decide +kernel) ⟨Nat.le_of_ble_eq_true rfl, Nat.le_of_ble_eq_true rfl⟩) rfl hl.1 rfl (Nat.le_of_ble_eq_true rfl) dX11_eitherOutside_7 ⟨Nat.zero_le _, Nat.zero_le _⟩) hS (fun H locs hH hS => ?_)
  refine lv_istore (lv' := [(4, .int r3), (0, .int a0), (1, .int a1), (2, .int a2), (3, .int a3)]) hx hb dX11_eitherOutside_10 hl (by decide) rfl (fun ls hl => ?_)
  refine lv_iload hx hb dX11_eitherOutside_12 (lv_at hl 0 rfl) ?_
  refine lv_bipush (v := (-4)) hx hb dX11_eitherOutside_14 (by decide) ?_
  refine lv_icmp_ne (tgt := 24) hx hb dX11_eitherOutside_16 (by decide) (fun c4 => ?_) (fun c4 => ?_)
  · have hf := mt_ifF c4 hf
    refine lv_iload_n hx hb dX11_eitherOutside_24 rfl (lv_at hl 1 rfl) ?_
    refine lv_iload_n hx hb dX11_eitherOutside_25 rfl (lv_at hl 2 rfl) ?_
    refine va_mmax hx hb (hml.trans hl.1.symm) hown kw4 kw5 kw2 kw6 (Nat.le_of_ble_eq_true rfl) (Nat.le_of_ble_eq_true rfl) (Nat.zero_le _) (Nat.zero_le _) dX11_eitherOutside_26 ?_
    refine mt_lti hf (fun x5 ex5 hf => ?_)
    refine lv_iload_n hx hb dX11_eitherOutside_29 rfl (lv_at hl 3 rfl) ?_
    refine lv_iload_n hx hb dX11_eitherOutside_30 rfl (lv_at hl 4 rfl) ?_
    refine mt_b1I hf (fun r7 hg6 hf => ?_)
    refine mt_goi (mt_runS (As := [.int x5, .int a2, .int a3]) (rest := []) ⟨hx, hb, hml, hown, hts⟩ hI hH (c_X11_outside l E x5 a2 a3 M u _ hg6) (va_cwS 3 hts gX11_eitherOutside_X11_outside rfl rfl rfl (by decide +kernel) ⟨Nat.le_of_ble_eq_true rfl, Nat.le_of_ble_eq_true rfl⟩) rfl hl.1 rfl (Nat.le_of_ble_eq_true rfl) dX11_eitherOutside_31 ⟨Nat.zero_le _, Nat.zero_le _⟩) hS (fun H locs hH hS => ?_)
    have i1 := mt_so1 hf
    subst i1
    exact mt_iret hx hb hr hI hH hS hlocks dX11_eitherOutside_34
  · have hf := mt_ifT c4 hf
    refine lv_bipush (v := (-4)) hx hb dX11_eitherOutside_19 (by decide) ?_
    refine lv_goto (tgt := 34) hx hb dX11_eitherOutside_21 (by decide) ?_
    have i1 := mt_so1 hf
    subst i1
    exact mt_iret hx hb hr hI hH hS hlocks dX11_eitherOutside_34
set_option maxHeartbeats 4000000 in
set_option maxRecDepth 100000 in
theorem c_X0_refusalToAdd (l : Launch) (E : mt_E) (c : Nat) (hc : mt_cup c) (a1 : Int32) (a2 : Int32) (a3 : Int32) (M : mt_M) (u : mt_U) (r : Int32) (hf : f_X0_refusalToAdd c a1 a2 a3 M = some (r)) : Met l yX0_refusalToAdd wsX0_refusalToAdd ({ frames := 2, cells := 0, slots := 0, locals := 46 } : Room) (mt_P E [.ref (E.2.1 c), .int a1, .int a2, .int a3] M u) (mt_Qi E r M u) 0 0 (mt_A E) := by
  refine Met.ofW (cc := cX0_refusalToAdd) (maxL := 5) (ret := (some .int)) (by decide) rfl ?_
  intro p e s mid args below meth c0 s₁ B hml hv
  obtain ⟨rfl, hI, hH⟩ := hv
  have hx := B.exec
  have hb := B.bytes
  have hr := B.returns
  have hts := atoms_spec (ws := wsX0_refusalToAdd) B.pre
  have hown : s.vm.findClass RX0 = some mid.cls := findClass_of_methodNamed B.named
  have hlocks := B.notSynchronized
  have hS : va_S (mt_A E) s.heap s.heap [] := va_S.rf
  have hl := lv_entry ([.ref (E.2.1 c), .int a1, .int a2, .int a3]) (n := 5) (Nat.le_of_ble_eq_true rfl)
  rw [lg_entry_eq]
  generalize (lg_sl ([.ref (E.2.1 c), .int a1, .int a2, .int a3]) ++ List.replicate (5 - (lg_sl ([.ref (E.2.1 c), .int a1, .int a2, .int a3])).length) Slot.unset).toArray = ls at hl ⊢
  have hl : lv_has ls 5 [(0, .ref (E.2.1 c)), (1, .int a1), (2, .int a2), (3, .int a3)] := hl
  unfold f_X0_refusalToAdd at hf
  have kw0 := hts (.fieldLink RX0 43 "MilkTwice$Cupboard" "things" "I") (List.mem_of_getElem? (i := 1) rfl)
  have kw1 := hts (.initialized RX11) (List.mem_of_getElem? (i := 3) rfl)
  have kw2 := hts (.static yX11_eitherOutside) (List.mem_of_getElem? (i := 5) rfl)
  have kw3 := hts (.static yX11_isOneOf) (List.mem_of_getElem? (i := 2) rfl)
  have hinX0 : ∀ w ∈ u_ws RX0 TX0 12, w ∈ wsX0_refusalToAdd := fun w h => List.mem_cons_of_mem _ (List.mem_append_right _ h)
  refine lv_iload_n hx hb dX0_refusalToAdd_0 rfl (lv_at hl 1 rfl) ?_
  refine lv_iconst (v := 5) hx hb dX0_refusalToAdd_1 (by decide) ?_
  refine mt_b1I hf (fun r2 hg1 hf => ?_)
  refine mt_goi (mt_runSN (As := [.int a1, .int (5 : Int32)]) (rest := []) ⟨hx, hb, hml, hown, hts⟩ hI hH (c_X11_isOneOf l E a1 (5 : Int32) M u _ hg1) ⟨va_cnB 2 hts gX0_refusalToAdd_X11_isOneOf_n56 rfl rfl rfl (hI.2.2.1 _ (List.mem_of_getElem? (i := 12) rfl)) kw1 (by decide +kernel) ⟨Nat.le_of_ble_eq_true rfl, Nat.le_of_ble_eq_true rfl⟩, kw3, trivial⟩ rfl hl.1 rfl (Nat.le_of_ble_eq_true rfl) dX0_refusalToAdd_2 ⟨Nat.zero_le _, Nat.zero_le _⟩) hS (fun H locs hH hS => ?_)
  refine lv_if_ne (tgt := 11) hx hb dX0_refusalToAdd_5 (by decide) (fun c3 => ?_) (fun c3 => ?_)
  · have hf := mt_ifF c3 hf
    refine lv_iload_n hx hb dX0_refusalToAdd_11 rfl (lv_at hl 2 rfl) ?_
    refine lv_iload_n hx hb dX0_refusalToAdd_12 rfl (lv_at hl 3 rfl) ?_
    refine lv_iconst (v := 0) hx hb dX0_refusalToAdd_13 (by decide) ?_
    refine lv_bipush (v := 9) hx hb dX0_refusalToAdd_14 (by decide) ?_
    refine mt_b1I hf (fun r5 hg4 hf => ?_)
    refine mt_goi (mt_runSN (As := [.int a2, .int a3, .int (0 : Int32), .int (9 : Int32)]) (rest := []) ⟨hx, hb, hml, hown, hts⟩ hI hH (c_X11_eitherOutside l E a2 a3 (0 : Int32) (9 : Int32) M u _ hg4) ⟨va_cnB 4 hts gX0_refusalToAdd_X11_eitherOutside_n60 rfl rfl rfl (hI.2.2.1 _ (List.mem_of_getElem? (i := 13) rfl)) kw1 (by decide +kernel) ⟨Nat.le_of_ble_eq_true rfl, Nat.le_of_ble_eq_true rfl⟩, kw2, trivial⟩ rfl hl.1 rfl (Nat.le_of_ble_eq_true rfl) dX0_refusalToAdd_16 ⟨Nat.zero_le _, Nat.zero_le _⟩) hS (fun H locs hH hS => ?_)
    refine lv_istore (lv' := [(4, .int r5), (0, .ref (E.2.1 c)), (1, .int a1), (2, .int a2), (3, .int a3)]) hx hb dX0_refusalToAdd_19 hl (by decide) rfl (fun ls hl => ?_)
    refine lv_iload hx hb dX0_refusalToAdd_21 (lv_at hl 0 rfl) ?_
    refine lv_if_ne (tgt := 40) hx hb dX0_refusalToAdd_23 (by decide) (fun c6 => ?_) (fun c6 => ?_)
    · have hf := mt_ifF c6 hf
      refine lv_iload hx hb dX0_refusalToAdd_40 (lv_at hl 0 rfl) ?_
      have i1 := mt_so1 hf
      subst i1
      exact mt_iret hx hb hr hI hH hS hlocks dX0_refusalToAdd_42
    · have hf := mt_ifT c6 hf
      refine lv_aload_n hx hb dX0_refusalToAdd_26 rfl (lv_at hl 1 rfl) ?_
      refine mt_geti (C := RX0) (T := TX0) (N := 12) hx hb hts hinX0 hown hI hH (mt_T_cup hc) rfl 8 (by decide) kw0 rfl rfl dX0_refusalToAdd_27 ?_
      refine lv_bipush (v := 7) hx hb dX0_refusalToAdd_30 (by decide) ?_
      refine lv_icmp_lt (tgt := 40) hx hb dX0_refusalToAdd_32 (by decide) (fun c7 => ?_) (fun c7 => ?_)
      · have hf := mt_ifT c7 hf
        refine lv_iload hx hb dX0_refusalToAdd_40 (lv_at hl 0 rfl) ?_
        have i1 := mt_so1 hf
        subst i1
        exact mt_iret hx hb hr hI hH hS hlocks dX0_refusalToAdd_42
      · have hf := mt_ifF c7 hf
        refine lv_bipush (v := (-6)) hx hb dX0_refusalToAdd_35 (by decide) ?_
        refine lv_goto (tgt := 42) hx hb dX0_refusalToAdd_37 (by decide) ?_
        have i1 := mt_so1 hf
        subst i1
        exact mt_iret hx hb hr hI hH hS hlocks dX0_refusalToAdd_42
  · have hf := mt_ifT c3 hf
    refine lv_bipush (v := (-2)) hx hb dX0_refusalToAdd_8 (by decide) ?_
    have i1 := mt_so1 hf
    subst i1
    exact mt_iret hx hb hr hI hH hS hlocks dX0_refusalToAdd_10
set_option maxHeartbeats 4000000 in
set_option maxRecDepth 100000 in
theorem c_X0_add (l : Launch) (E : mt_E) (c : Nat) (hc : mt_cup c) (a1 : Int32) (a2 : Int32) (a3 : Int32) (M : mt_M) (u : mt_U) (r : Int32) (M' : mt_M) (hf : f_X0_add c a1 a2 a3 M = some (r, M')) : Met l yX0_add wsX0_add ({ frames := 3, cells := 0, slots := 0, locals := 70 } : Room) (mt_P E [.ref (E.2.1 c), .int a1, .int a2, .int a3] M u) (mt_Qi E r M' u) 0 0 (mt_A E) := by
  refine Met.ofW (cc := cX0_add) (maxL := 6) (ret := (some .int)) (by decide) rfl ?_
  intro p e s mid args below meth c0 s₁ B hml hv
  obtain ⟨rfl, hI, hH⟩ := hv
  have hx := B.exec
  have hb := B.bytes
  have hr := B.returns
  have hts := atoms_spec (ws := wsX0_add) B.pre
  have hown : s.vm.findClass RX0 = some mid.cls := findClass_of_methodNamed B.named
  have hlocks := B.notSynchronized
  have hS : va_S (mt_A E) s.heap s.heap [] := va_S.rf
  have hl := lv_entry ([.ref (E.2.1 c), .int a1, .int a2, .int a3]) (n := 6) (Nat.le_of_ble_eq_true rfl)
  rw [lg_entry_eq]
  generalize (lg_sl ([.ref (E.2.1 c), .int a1, .int a2, .int a3]) ++ List.replicate (6 - (lg_sl ([.ref (E.2.1 c), .int a1, .int a2, .int a3])).length) Slot.unset).toArray = ls at hl ⊢
  have hl : lv_has ls 6 [(0, .ref (E.2.1 c)), (1, .int a1), (2, .int a2), (3, .int a3)] := hl
  unfold f_X0_add at hf
  have kw0 := hts (.fieldLink RX0 43 "MilkTwice$Cupboard" "things" "I") (List.mem_of_getElem? (i := 1) rfl)
  have kw1 := hts (.fieldLink RX0 9 "MilkTwice$Cupboard" "kind" "[I") (List.mem_of_getElem? (i := 2) rfl)
  have kw2 := hts (.fieldLink RX0 15 "MilkTwice$Cupboard" "figure" "[I") (List.mem_of_getElem? (i := 3) rfl)
  have kw3 := hts (.fieldLink RX0 18 "MilkTwice$Cupboard" "use" "[I") (List.mem_of_getElem? (i := 4) rfl)
  have kw4 := hts (.fieldLink RX0 21 "MilkTwice$Cupboard" "price" "[I") (List.mem_of_getElem? (i := 5) rfl)
  have kw5 := hts (.fieldLink RX0 33 "MilkTwice$Cupboard" "kinds" "[LMilkTwice$Kind;") (List.mem_of_getElem? (i := 6) rfl)
  have kw6 := hts (.fieldLink RX0 24 "MilkTwice$Cupboard" "pack" "[I") (List.mem_of_getElem? (i := 7) rfl)
  have kw7 := hts (.fieldLink RX0 27 "MilkTwice$Cupboard" "stock" "[I") (List.mem_of_getElem? (i := 8) rfl)
  have kw8 := hts (.code yX6_packSize cX6_packSize 1 (some .int)) (List.mem_of_getElem? (i := 65) rfl)
  have kw9 := hts (.code yX6_priceAt cX6_priceAt 2 (some .int)) (List.mem_of_getElem? (i := 36) rfl)
  have hinX0 : ∀ w ∈ u_ws RX0 TX0 12, w ∈ wsX0_add := fun w h => List.mem_cons_of_mem _ (List.mem_append_right _ h)
  refine lv_aload_n hx hb dX0_add_0 rfl (lv_at hl 0 rfl) ?_
  refine lv_iload_n hx hb dX0_add_1 rfl (lv_at hl 1 rfl) ?_
  refine lv_iload_n hx hb dX0_add_2 rfl (lv_at hl 2 rfl) ?_
  refine lv_iload_n hx hb dX0_add_3 rfl (lv_at hl 3 rfl) ?_
  refine mt_b1I hf (fun r2 hg1 hf => ?_)
  refine mt_goi (mt_runV (i := c) (As := [.int a1, .int a2, .int a3]) (rest := []) ⟨hx, hb, hml, hown, hts⟩ hI hH (c_X0_refusalToAdd l E c hc a1 a2 a3 M u _ hg1) (cwV 3 hts gX0_add_X0_refusalToAdd rfl rfl rfl (by decide +kernel) ⟨Nat.le_of_ble_eq_true rfl, Nat.le_of_ble_eq_true rfl⟩) (mt_T_cup hc) rfl rfl hl.1 rfl (Nat.le_of_ble_eq_true rfl) dX0_add_4 ⟨Nat.zero_le _, Nat.zero_le _⟩) hS (fun H locs hH hS => ?_)
  refine lv_istore (lv' := [(4, .int r2), (0, .ref (E.2.1 c)), (1, .int a1), (2, .int a2), (3, .int a3)]) hx hb dX0_add_7 hl (by decide) rfl (fun ls hl => ?_)
  refine lv_iload hx hb dX0_add_9 (lv_at hl 0 rfl) ?_
  refine lv_if_eq (tgt := 17) hx hb dX0_add_11 (by decide) (fun c3 => ?_) (fun c3 => ?_)
  · have hf := mt_ifT c3 hf
    refine lv_aload_n hx hb dX0_add_17 rfl (lv_at hl 1 rfl) ?_
    refine mt_geti (C := RX0) (T := TX0) (N := 12) hx hb hts hinX0 hown hI hH (mt_T_cup hc) rfl 8 (by decide) kw0 rfl rfl dX0_add_18 ?_
    refine mt_lti hf (fun x4 ex4 hf => ?_)
    refine lv_istore (lv' := [(5, .int x4), (4, .int r2), (0, .ref (E.2.1 c)), (1, .int a1), (2, .int a2), (3, .int a3)]) hx hb dX0_add_21 hl (by decide) rfl (fun ls hl => ?_)
    refine lv_aload_n hx hb dX0_add_23 rfl (lv_at hl 2 rfl) ?_
    refine mt_getr (C := RX0) (T := TX0) (N := 12) hx hb hts hinX0 hown hI hH (mt_T_cup hc) rfl 1 (by decide) kw1 rfl rfl dX0_add_24 ?_
    refine lv_iload hx hb dX0_add_27 (lv_at hl 0 rfl) ?_
    refine lv_iload_n hx hb dX0_add_29 rfl (lv_at hl 3 rfl) ?_
    refine mt_ciI hf (fun q6 hf => ?_)
    refine mt_iast hx hb hI hH hS (mt_T_cupA hc 1 (by decide) (by decide)) q6 dX0_add_30 (fun H locs hH hS => ?_)
    refine mt_ltI hf (fun M5 eM5 hf => ?_)
    rw [← eM5] at hH
    refine lv_aload_n hx hb dX0_add_31 rfl (lv_at hl 2 rfl) ?_
    refine mt_getr (C := RX0) (T := TX0) (N := 12) hx hb hts hinX0 hown hI hH (mt_T_cup hc) rfl 2 (by decide) kw2 rfl rfl dX0_add_32 ?_
    refine lv_iload hx hb dX0_add_35 (lv_at hl 0 rfl) ?_
    refine lv_iload_n hx hb dX0_add_37 rfl (lv_at hl 4 rfl) ?_
    refine mt_ciI hf (fun q8 hf => ?_)
    refine mt_iast hx hb hI hH hS (mt_T_cupA hc 2 (by decide) (by decide)) q8 dX0_add_38 (fun H locs hH hS => ?_)
    refine mt_ltI hf (fun M7 eM7 hf => ?_)
    rw [← eM7] at hH
    refine lv_aload_n hx hb dX0_add_39 rfl (lv_at hl 2 rfl) ?_
    refine mt_getr (C := RX0) (T := TX0) (N := 12) hx hb hts hinX0 hown hI hH (mt_T_cup hc) rfl 3 (by decide) kw3 rfl rfl dX0_add_40 ?_
    refine lv_iload hx hb dX0_add_43 (lv_at hl 0 rfl) ?_
    refine lv_iload_n hx hb dX0_add_45 rfl (lv_at hl 5 rfl) ?_
    refine mt_ciI hf (fun q10 hf => ?_)
    refine mt_iast hx hb hI hH hS (mt_T_cupA hc 3 (by decide) (by decide)) q10 dX0_add_46 (fun H locs hH hS => ?_)
    refine mt_ltI hf (fun M9 eM9 hf => ?_)
    rw [← eM9] at hH
    refine lv_aload_n hx hb dX0_add_47 rfl (lv_at hl 2 rfl) ?_
    refine mt_getr (C := RX0) (T := TX0) (N := 12) hx hb hts hinX0 hown hI hH (mt_T_cup hc) rfl 4 (by decide) kw4 rfl rfl dX0_add_48 ?_
    refine lv_iload hx hb dX0_add_51 (lv_at hl 0 rfl) ?_
    refine lv_aload_n hx hb dX0_add_53 rfl (lv_at hl 2 rfl) ?_
    refine mt_getr (C := RX0) (T := TX0) (N := 12) hx hb hts hinX0 hown hI hH (mt_T_cup hc) rfl 0 (by decide) kw5 rfl rfl dX0_add_54 ?_
    refine lv_iload_n hx hb dX0_add_57 rfl (lv_at hl 3 rfl) ?_
    refine mt_ciI hf (fun q11 hf => ?_)
    refine mt_aldK hx hb hI hH q11 dX0_add_58 ?_
    refine mt_ltr hf (fun g12 eg12 hf => ?_)
    have hg12 : 4 ≤ g12 ∧ g12 < 10 := mt_kind_ix q11 eg12
    refine lv_iload_n hx hb dX0_add_59 rfl (lv_at hl 4 rfl) ?_
    refine mt_b1I hf (fun r14 hg13 hf => ?_)
    have run : va_Run p l e (headSpec wsX0_add ({ frames := 3, cells := 0, slots := 0, locals := 70 } : Room)).room s mid (([.ref (E.2.1 c), .int a1, .int a2, .int a3] : List Value).toArray) below meth c0 H locs 0 0 0 0 (F0 mid 60 ls [.int a2, .ref (E.2.1 g12), .int x4, .ref (E.2.1 (c + 4))]) [.int x4, .ref (E.2.1 (c + 4))] (mt_Qi E r14 M9 u ([.ref (E.2.1 g12), .int a2] : List Value).toArray) (mt_A E) := by
      rcases mt_kind6 hg12 with rfl | rfl | rfl | rfl | rfl | rfl
      · exact mt_runV (i := 4) (As := [.int a2]) (rest := [.int x4, .ref (E.2.1 (c + 4))]) ⟨hx, hb, hml, hown, hts⟩ hI hH (c_X6_priceAt l E 4 6 _ _ _ mt_T4 rfl a2 M9 u _ hg13) (cwV 1 hts gX0_add_X6_priceAt rfl rfl rfl (by decide +kernel) ⟨Nat.le_of_ble_eq_true rfl, Nat.le_of_ble_eq_true rfl⟩) mt_T4 rfl rfl hl.1 rfl (Nat.le_of_ble_eq_true rfl) dX0_add_60 ⟨Nat.zero_le _, Nat.zero_le _⟩
      · exact mt_runU (i := 5) (As := [.int a2]) (rest := [.int x4, .ref (E.2.1 (c + 4))]) ⟨hx, hb, hml, hown, hts⟩ hI hH (c_X9_priceAt l E 5 9 _ _ _ mt_T5 rfl a2 M9 u _ hg13) (va_cwO 1 hts gX0_add_X9_priceAt_u68X9 rfl rfl rfl (List.mem_of_getElem? (i := 36) rfl) (by decide +kernel) ⟨Nat.le_of_ble_eq_true rfl, Nat.le_of_ble_eq_true rfl⟩) mt_T5 rfl rfl hl.1 rfl (Nat.le_of_ble_eq_true rfl) dX0_add_60 ⟨Nat.zero_le _, Nat.zero_le _⟩
      · exact mt_runU (i := 6) (As := [.int a2]) (rest := [.int x4, .ref (E.2.1 (c + 4))]) ⟨hx, hb, hml, hown, hts⟩ hI hH (c_X6_priceAt l E 6 5 _ _ _ mt_T6 rfl a2 M9 u _ hg13) (va_cwU 1 hts gX0_add_X6_priceAt_u68X5 rfl rfl rfl rfl (by decide +kernel) ⟨Nat.le_of_ble_eq_true rfl, Nat.le_of_ble_eq_true rfl⟩) mt_T6 rfl rfl hl.1 rfl (Nat.le_of_ble_eq_true rfl) dX0_add_60 ⟨Nat.zero_le _, Nat.zero_le _⟩
      · exact mt_runU (i := 7) (As := [.int a2]) (rest := [.int x4, .ref (E.2.1 (c + 4))]) ⟨hx, hb, hml, hown, hts⟩ hI hH (c_X1_priceAt l E 7 1 _ _ _ mt_T7 rfl a2 M9 u _ hg13) (va_cwO 1 hts gX0_add_X1_priceAt_u68X1 rfl rfl rfl (List.mem_of_getElem? (i := 36) rfl) (by decide +kernel) ⟨Nat.le_of_ble_eq_true rfl, Nat.le_of_ble_eq_true rfl⟩) mt_T7 rfl rfl hl.1 rfl (Nat.le_of_ble_eq_true rfl) dX0_add_60 ⟨Nat.zero_le _, Nat.zero_le _⟩
      · exact mt_runU (i := 8) (As := [.int a2]) (rest := [.int x4, .ref (E.2.1 (c + 4))]) ⟨hx, hb, hml, hown, hts⟩ hI hH (c_X2_priceAt l E 8 2 _ _ _ mt_T8 rfl a2 M9 u _ hg13) (va_cwO 1 hts gX0_add_X2_priceAt_u68X2 rfl rfl rfl (List.mem_of_getElem? (i := 36) rfl) (by decide +kernel) ⟨Nat.le_of_ble_eq_true rfl, Nat.le_of_ble_eq_true rfl⟩) mt_T8 rfl rfl hl.1 rfl (Nat.le_of_ble_eq_true rfl) dX0_add_60 ⟨Nat.zero_le _, Nat.zero_le _⟩
      · exact mt_runU (i := 9) (As := [.int a2]) (rest := [.int x4, .ref (E.2.1 (c + 4))]) ⟨hx, hb, hml, hown, hts⟩ hI hH (c_X10_priceAt l E 9 10 _ _ _ mt_T9 rfl a2 M9 u _ hg13) (va_cwO 1 hts gX0_add_X10_priceAt_u68X10 rfl rfl rfl (List.mem_of_getElem? (i := 36) rfl) (by decide +kernel) ⟨Nat.le_of_ble_eq_true rfl, Nat.le_of_ble_eq_true rfl⟩) mt_T9 rfl rfl hl.1 rfl (Nat.le_of_ble_eq_true rfl) dX0_add_60 ⟨Nat.zero_le _, Nat.zero_le _⟩
    refine mt_goi run hS (fun H locs hH hS => ?_)
    refine mt_ciI hf (fun q16 hf => ?_)
    refine mt_iast hx hb hI hH hS (mt_T_cupA hc 4 (by decide) (by decide)) q16 dX0_add_63 (fun H locs hH hS => ?_)
    refine mt_ltI hf (fun M15 eM15 hf => ?_)
    rw [← eM15] at hH
    refine lv_aload_n hx hb dX0_add_64 rfl (lv_at hl 2 rfl) ?_
    refine mt_getr (C := RX0) (T := TX0) (N := 12) hx hb hts hinX0 hown hI hH (mt_T_cup hc) rfl 5 (by decide) kw6 rfl rfl dX0_add_65 ?_
    refine lv_iload hx hb dX0_add_68 (lv_at hl 0 rfl) ?_
    refine lv_aload_n hx hb dX0_add_70 rfl (lv_at hl 2 rfl) ?_
    refine mt_getr (C := RX0) (T := TX0) (N := 12) hx hb hts hinX0 hown hI hH (mt_T_cup hc) rfl 0 (by decide) kw5 rfl rfl dX0_add_71 ?_
    refine lv_iload_n hx hb dX0_add_74 rfl (lv_at hl 3 rfl) ?_
    refine mt_ciI hf (fun q17 hf => ?_)
    refine mt_aldK hx hb hI hH q17 dX0_add_75 ?_
    refine mt_ltr hf (fun g18 eg18 hf => ?_)
    have hg18 : 4 ≤ g18 ∧ g18 < 10 := mt_kind_ix q17 eg18
    refine mt_b1I hf (fun r20 hg19 hf => ?_)
    have run : va_Run p l e (headSpec wsX0_add ({ frames := 3, cells := 0, slots := 0, locals := 70 } : Room)).room s mid (([.ref (E.2.1 c), .int a1, .int a2, .int a3] : List Value).toArray) below meth c0 H locs 0 0 0 0 (F0 mid 76 ls [.ref (E.2.1 g18), .int x4, .ref (E.2.1 (c + 5))]) [.int x4, .ref (E.2.1 (c + 5))] (mt_Qi E r20 M15 u ([.ref (E.2.1 g18)] : List Value).toArray) (mt_A E) := by
      rcases mt_kind6 hg18 with rfl | rfl | rfl | rfl | rfl | rfl
      · exact mt_runV (i := 4) (As := []) (rest := [.int x4, .ref (E.2.1 (c + 5))]) ⟨hx, hb, hml, hown, hts⟩ hI hH (c_X6_packSize l E 4 6 _ _ _ mt_T4 rfl  M15 u _ hg19) (cwV 0 hts gX0_add_X6_packSize rfl rfl rfl (by decide +kernel) ⟨Nat.le_of_ble_eq_true rfl, Nat.le_of_ble_eq_true rfl⟩) mt_T4 rfl rfl hl.1 rfl (Nat.le_of_ble_eq_true rfl) dX0_add_76 ⟨Nat.zero_le _, Nat.zero_le _⟩
      · exact mt_runU (i := 5) (As := []) (rest := [.int x4, .ref (E.2.1 (c + 5))]) ⟨hx, hb, hml, hown, hts⟩ hI hH (c_X9_packSize l E 5 9 _ _ _ mt_T5 rfl  M15 u _ hg19) (va_cwO 0 hts gX0_add_X9_packSize_u74X9 rfl rfl rfl (List.mem_of_getElem? (i := 65) rfl) (by decide +kernel) ⟨Nat.le_of_ble_eq_true rfl, Nat.le_of_ble_eq_true rfl⟩) mt_T5 rfl rfl hl.1 rfl (Nat.le_of_ble_eq_true rfl) dX0_add_76 ⟨Nat.zero_le _, Nat.zero_le _⟩
      · exact mt_runU (i := 6) (As := []) (rest := [.int x4, .ref (E.2.1 (c + 5))]) ⟨hx, hb, hml, hown, hts⟩ hI hH (c_X5_packSize l E 6 5 _ _ _ mt_T6 rfl  M15 u _ hg19) (va_cwO 0 hts gX0_add_X5_packSize_u74X5 rfl rfl rfl (List.mem_of_getElem? (i := 65) rfl) (by decide +kernel) ⟨Nat.le_of_ble_eq_true rfl, Nat.le_of_ble_eq_true rfl⟩) mt_T6 rfl rfl hl.1 rfl (Nat.le_of_ble_eq_true rfl) dX0_add_76 ⟨Nat.zero_le _, Nat.zero_le _⟩
      · exact mt_runU (i := 7) (As := []) (rest := [.int x4, .ref (E.2.1 (c + 5))]) ⟨hx, hb, hml, hown, hts⟩ hI hH (c_X1_packSize l E 7 1 _ _ _ mt_T7 rfl  M15 u _ hg19) (va_cwO 0 hts gX0_add_X1_packSize_u74X1 rfl rfl rfl (List.mem_of_getElem? (i := 65) rfl) (by decide +kernel) ⟨Nat.le_of_ble_eq_true rfl, Nat.le_of_ble_eq_true rfl⟩) mt_T7 rfl rfl hl.1 rfl (Nat.le_of_ble_eq_true rfl) dX0_add_76 ⟨Nat.zero_le _, Nat.zero_le _⟩
      · exact mt_runU (i := 8) (As := []) (rest := [.int x4, .ref (E.2.1 (c + 5))]) ⟨hx, hb, hml, hown, hts⟩ hI hH (c_X9_packSize l E 8 2 _ _ _ mt_T8 rfl  M15 u _ hg19) (va_cwO 0 hts gX0_add_X9_packSize_u74X2 rfl rfl rfl (List.mem_of_getElem? (i := 65) rfl) (by decide +kernel) ⟨Nat.le_of_ble_eq_true rfl, Nat.le_of_ble_eq_true rfl⟩) mt_T8 rfl rfl hl.1 rfl (Nat.le_of_ble_eq_true rfl) dX0_add_76 ⟨Nat.zero_le _, Nat.zero_le _⟩
      · exact mt_runU (i := 9) (As := []) (rest := [.int x4, .ref (E.2.1 (c + 5))]) ⟨hx, hb, hml, hown, hts⟩ hI hH (c_X10_packSize l E 9 10 _ _ _ mt_T9 rfl  M15 u _ hg19) (va_cwO 0 hts gX0_add_X10_packSize_u74X10 rfl rfl rfl (List.mem_of_getElem? (i := 65) rfl) (by decide +kernel) ⟨Nat.le_of_ble_eq_true rfl, Nat.le_of_ble_eq_true rfl⟩) mt_T9 rfl rfl hl.1 rfl (Nat.le_of_ble_eq_true rfl) dX0_add_76 ⟨Nat.zero_le _, Nat.zero_le _⟩
    refine mt_goi run hS (fun H locs hH hS => ?_)
    refine mt_ciI hf (fun q22 hf => ?_)
    refine mt_iast hx hb hI hH hS (mt_T_cupA hc 5 (by decide) (by decide)) q22 dX0_add_79 (fun H locs hH hS => ?_)
    refine mt_ltI hf (fun M21 eM21 hf => ?_)
    rw [← eM21] at hH
    refine lv_aload_n hx hb dX0_add_80 rfl (lv_at hl 2 rfl) ?_
    refine mt_getr (C := RX0) (T := TX0) (N := 12) hx hb hts hinX0 hown hI hH (mt_T_cup hc) rfl 6 (by decide) kw7 rfl rfl dX0_add_81 ?_
    refine lv_iload hx hb dX0_add_84 (lv_at hl 0 rfl) ?_
    refine lv_iconst (v := 0) hx hb dX0_add_86 (by decide) ?_
    refine mt_ciI hf (fun q24 hf => ?_)
    refine mt_iast hx hb hI hH hS (mt_T_cupA hc 6 (by decide) (by decide)) q24 dX0_add_87 (fun H locs hH hS => ?_)
    refine mt_ltI hf (fun M23 eM23 hf => ?_)
    rw [← eM23] at hH
    refine lv_aload_n hx hb dX0_add_88 rfl (lv_at hl 2 rfl) ?_
    refine lv_dup hx hb dX0_add_89 rfl ?_
    refine mt_geti (C := RX0) (T := TX0) (N := 12) hx hb hts hinX0 hown hI hH (mt_T_cup hc) rfl 8 (by decide) kw0 rfl rfl dX0_add_90 ?_
    refine lv_iconst (v := 1) hx hb dX0_add_93 (by decide) ?_
    refine lv_iadd hx hb dX0_add_94 ?_
    refine mt_puti (ty := .int) (C := RX0) (T := TX0) (N := 12) hx hb hts hinX0 tyX0 tyX0_ok nmX0 hown hI hH hS (mt_T_cup hc) rfl 8 (by decide) kw0 rfl rfl (by decide +kernel) rfl rfl rfl dX0_add_95 (fun H locs hH hS => ?_)
    refine mt_ltI hf (fun M25 eM25 hf => ?_)
    rw [← eM25] at hH
    refine lv_iload hx hb dX0_add_98 (lv_at hl 0 rfl) ?_
    obtain ⟨i1, i2⟩ := mt_so2 hf
    subst i1
    subst i2
    exact mt_iret hx hb hr hI hH hS hlocks dX0_add_100
  · have hf := mt_ifF c3 hf
    refine lv_iload hx hb dX0_add_14 (lv_at hl 0 rfl) ?_
    obtain ⟨i1, i2⟩ := mt_so2 hf
    subst i1
    subst i2
    exact mt_iret hx hb hr hI hH hS hlocks dX0_add_16
set_option maxHeartbeats 4000000 in
set_option maxRecDepth 100000 in
theorem c_X0_kindOf (l : Launch) (E : mt_E) (c : Nat) (hc : mt_cup c) (a1 : Int32) (M : mt_M) (u : mt_U) (r : Nat) (hf : f_X0_kindOf c a1 M = some (r)) : Met l yX0_kindOf wsX0_kindOf ({ frames := 1, cells := 0, slots := 0, locals := 21 } : Room) (mt_P E [.ref (E.2.1 c), .int a1] M u) (mt_Qr E (E.2.1 r) M u) 0 0 (mt_A E) := by
  refine Met.ofW (cc := cX0_kindOf) (maxL := 2) (ret := (some (.object "MilkTwice$Kind"))) (by decide) rfl ?_
  intro p e s mid args below meth c0 s₁ B hml hv
  obtain ⟨rfl, hI, hH⟩ := hv
  have hx := B.exec
  have hb := B.bytes
  have hr := B.returns
  have hts := atoms_spec (ws := wsX0_kindOf) B.pre
  have hown : s.vm.findClass RX0 = some mid.cls := findClass_of_methodNamed B.named
  have hlocks := B.notSynchronized
  have hS : va_S (mt_A E) s.heap s.heap [] := va_S.rf
  have hl := lv_entry ([.ref (E.2.1 c), .int a1]) (n := 2) (Nat.le_of_ble_eq_true rfl)
  rw [lg_entry_eq]
  generalize (lg_sl ([.ref (E.2.1 c), .int a1]) ++ List.replicate (2 - (lg_sl ([.ref (E.2.1 c), .int a1])).length) Slot.unset).toArray = ls at hl ⊢
  have hl : lv_has ls 2 [(0, .ref (E.2.1 c)), (1, .int a1)] := hl
  unfold f_X0_kindOf at hf
  have kw0 := hts (.fieldLink RX0 33 "MilkTwice$Cupboard" "kinds" "[LMilkTwice$Kind;") (List.mem_of_getElem? (i := 1) rfl)
  have kw1 := hts (.fieldLink RX0 9 "MilkTwice$Cupboard" "kind" "[I") (List.mem_of_getElem? (i := 2) rfl)
  have hinX0 : ∀ w ∈ u_ws RX0 TX0 12, w ∈ wsX0_kindOf := fun w h => List.mem_cons_of_mem _ (List.mem_append_right _ h)
  refine lv_aload_n hx hb dX0_kindOf_0 rfl (lv_at hl 0 rfl) ?_
  refine mt_getr (C := RX0) (T := TX0) (N := 12) hx hb hts hinX0 hown hI hH (mt_T_cup hc) rfl 0 (by decide) kw0 rfl rfl dX0_kindOf_1 ?_
  refine lv_aload_n hx hb dX0_kindOf_4 rfl (lv_at hl 0 rfl) ?_
  refine lv_iload_n hx hb dX0_kindOf_5 rfl (lv_at hl 1 rfl) ?_
  refine mt_b1I hf (fun r2 hg1 hf => ?_)
  refine mt_goi (mt_runV (i := c) (As := [.int a1]) (rest := [.ref (E.2.1 3)]) ⟨hx, hb, hml, hown, hts⟩ hI hH (c_X0_has l E c hc a1 M u _ hg1) (cwV 1 hts gX0_kindOf_X0_has rfl rfl rfl (by decide +kernel) ⟨Nat.le_of_ble_eq_true rfl, Nat.le_of_ble_eq_true rfl⟩) (mt_T_cup hc) rfl rfl hl.1 rfl (Nat.le_of_ble_eq_true rfl) dX0_kindOf_6 ⟨Nat.zero_le _, Nat.zero_le _⟩) hS (fun H locs hH hS => ?_)
  refine lv_if_eq (tgt := 21) hx hb dX0_kindOf_9 (by decide) (fun c3 => ?_) (fun c3 => ?_)
  · have hf := mt_ifT c3 hf
    refine lv_iconst (v := 0) hx hb dX0_kindOf_21 (by decide) ?_
    refine mt_ciI hf (fun q4 hf => ?_)
    refine mt_aldK hx hb hI hH q4 dX0_kindOf_22 ?_
    refine mt_ltr hf (fun g5 eg5 hf => ?_)
    have hg5 : 4 ≤ g5 ∧ g5 < 10 := mt_kind_ix q4 eg5
    have i1 := mt_so1 hf
    subst i1
    exact mt_aret hx hb hr hI hH hS hlocks dX0_kindOf_23
  · have hf := mt_ifF c3 hf
    refine lv_aload_n hx hb dX0_kindOf_12 rfl (lv_at hl 0 rfl) ?_
    refine mt_getr (C := RX0) (T := TX0) (N := 12) hx hb hts hinX0 hown hI hH (mt_T_cup hc) rfl 1 (by decide) kw1 rfl rfl dX0_kindOf_13 ?_
    refine lv_iload_n hx hb dX0_kindOf_16 rfl (lv_at hl 1 rfl) ?_
    refine mt_ciI hf (fun q6 hf => ?_)
    refine mt_iald hx hb hI hH (mt_T_cupA hc 1 (by decide) (by decide)) q6 dX0_kindOf_17 ?_
    refine lv_goto (tgt := 22) hx hb dX0_kindOf_18 (by decide) ?_
    refine mt_ciI hf (fun q7 hf => ?_)
    refine mt_aldK hx hb hI hH q7 dX0_kindOf_22 ?_
    refine mt_ltr hf (fun g8 eg8 hf => ?_)
    have hg8 : 4 ≤ g8 ∧ g8 < 10 := mt_kind_ix q7 eg8
    have i1 := mt_so1 hf
    subst i1
    exact mt_aret hx hb hr hI hH hS hlocks dX0_kindOf_23
set_option maxHeartbeats 4000000 in
set_option maxRecDepth 100000 in
theorem c_X0_figureOf (l : Launch) (E : mt_E) (c : Nat) (hc : mt_cup c) (a1 : Int32) (M : mt_M) (u : mt_U) (r : Int32) (hf : f_X0_figureOf c a1 M = some (r)) : Met l yX0_figureOf wsX0_figureOf ({ frames := 1, cells := 0, slots := 0, locals := 21 } : Room) (mt_P E [.ref (E.2.1 c), .int a1] M u) (mt_Qi E r M u) 0 0 (mt_A E) := by
  refine Met.ofW (cc := cX0_figureOf) (maxL := 2) (ret := (some .int)) (by decide) rfl ?_
  intro p e s mid args below meth c0 s₁ B hml hv
  obtain ⟨rfl, hI, hH⟩ := hv
  have hx := B.exec
  have hb := B.bytes
  have hr := B.returns
  have hts := atoms_spec (ws := wsX0_figureOf) B.pre
  have hown : s.vm.findClass RX0 = some mid.cls := findClass_of_methodNamed B.named
  have hlocks := B.notSynchronized
  have hS : va_S (mt_A E) s.heap s.heap [] := va_S.rf
  have hl := lv_entry ([.ref (E.2.1 c), .int a1]) (n := 2) (Nat.le_of_ble_eq_true rfl)
  rw [lg_entry_eq]
  generalize (lg_sl ([.ref (E.2.1 c), .int a1]) ++ List.replicate (2 - (lg_sl ([.ref (E.2.1 c), .int a1])).length) Slot.unset).toArray = ls at hl ⊢
  have hl : lv_has ls 2 [(0, .ref (E.2.1 c)), (1, .int a1)] := hl
  unfold f_X0_figureOf at hf
  have kw0 := hts (.fieldLink RX0 15 "MilkTwice$Cupboard" "figure" "[I") (List.mem_of_getElem? (i := 1) rfl)
  have hinX0 : ∀ w ∈ u_ws RX0 TX0 12, w ∈ wsX0_figureOf := fun w h => List.mem_cons_of_mem _ (List.mem_append_right _ h)
  refine lv_aload_n hx hb dX0_figureOf_0 rfl (lv_at hl 0 rfl) ?_
  refine lv_iload_n hx hb dX0_figureOf_1 rfl (lv_at hl 1 rfl) ?_
  refine mt_b1I hf (fun r2 hg1 hf => ?_)
  refine mt_goi (mt_runV (i := c) (As := [.int a1]) (rest := []) ⟨hx, hb, hml, hown, hts⟩ hI hH (c_X0_has l E c hc a1 M u _ hg1) (cwV 1 hts gX0_figureOf_X0_has rfl rfl rfl (by decide +kernel) ⟨Nat.le_of_ble_eq_true rfl, Nat.le_of_ble_eq_true rfl⟩) (mt_T_cup hc) rfl rfl hl.1 rfl (Nat.le_of_ble_eq_true rfl) dX0_figureOf_2 ⟨Nat.zero_le _, Nat.zero_le _⟩) hS (fun H locs hH hS => ?_)
  refine lv_if_eq (tgt := 17) hx hb dX0_figureOf_5 (by decide) (fun c3 => ?_) (fun c3 => ?_)
  · have hf := mt_ifT c3 hf
    refine lv_iconst (v := 0) hx hb dX0_figureOf_17 (by decide) ?_
    have i1 := mt_so1 hf
    subst i1
    exact mt_iret hx hb hr hI hH hS hlocks dX0_figureOf_18
  · have hf := mt_ifF c3 hf
    refine lv_aload_n hx hb dX0_figureOf_8 rfl (lv_at hl 0 rfl) ?_
    refine mt_getr (C := RX0) (T := TX0) (N := 12) hx hb hts hinX0 hown hI hH (mt_T_cup hc) rfl 2 (by decide) kw0 rfl rfl dX0_figureOf_9 ?_
    refine lv_iload_n hx hb dX0_figureOf_12 rfl (lv_at hl 1 rfl) ?_
    refine mt_ciI hf (fun q4 hf => ?_)
    refine mt_iald hx hb hI hH (mt_T_cupA hc 2 (by decide) (by decide)) q4 dX0_figureOf_13 ?_
    refine lv_goto (tgt := 18) hx hb dX0_figureOf_14 (by decide) ?_
    have i1 := mt_so1 hf
    subst i1
    exact mt_iret hx hb hr hI hH hS hlocks dX0_figureOf_18
set_option maxHeartbeats 4000000 in
set_option maxRecDepth 100000 in
theorem c_X0_useOf (l : Launch) (E : mt_E) (c : Nat) (hc : mt_cup c) (a1 : Int32) (M : mt_M) (u : mt_U) (r : Int32) (hf : f_X0_useOf c a1 M = some (r)) : Met l yX0_useOf wsX0_useOf ({ frames := 1, cells := 0, slots := 0, locals := 21 } : Room) (mt_P E [.ref (E.2.1 c), .int a1] M u) (mt_Qi E r M u) 0 0 (mt_A E) := by
  refine Met.ofW (cc := cX0_useOf) (maxL := 2) (ret := (some .int)) (by decide) rfl ?_
  intro p e s mid args below meth c0 s₁ B hml hv
  obtain ⟨rfl, hI, hH⟩ := hv
  have hx := B.exec
  have hb := B.bytes
  have hr := B.returns
  have hts := atoms_spec (ws := wsX0_useOf) B.pre
  have hown : s.vm.findClass RX0 = some mid.cls := findClass_of_methodNamed B.named
  have hlocks := B.notSynchronized
  have hS : va_S (mt_A E) s.heap s.heap [] := va_S.rf
  have hl := lv_entry ([.ref (E.2.1 c), .int a1]) (n := 2) (Nat.le_of_ble_eq_true rfl)
  rw [lg_entry_eq]
  generalize (lg_sl ([.ref (E.2.1 c), .int a1]) ++ List.replicate (2 - (lg_sl ([.ref (E.2.1 c), .int a1])).length) Slot.unset).toArray = ls at hl ⊢
  have hl : lv_has ls 2 [(0, .ref (E.2.1 c)), (1, .int a1)] := hl
  unfold f_X0_useOf at hf
  have kw0 := hts (.fieldLink RX0 18 "MilkTwice$Cupboard" "use" "[I") (List.mem_of_getElem? (i := 1) rfl)
  have hinX0 : ∀ w ∈ u_ws RX0 TX0 12, w ∈ wsX0_useOf := fun w h => List.mem_cons_of_mem _ (List.mem_append_right _ h)
  refine lv_aload_n hx hb dX0_useOf_0 rfl (lv_at hl 0 rfl) ?_
  refine lv_iload_n hx hb dX0_useOf_1 rfl (lv_at hl 1 rfl) ?_
  refine mt_b1I hf (fun r2 hg1 hf => ?_)
  refine mt_goi (mt_runV (i := c) (As := [.int a1]) (rest := []) ⟨hx, hb, hml, hown, hts⟩ hI hH (c_X0_has l E c hc a1 M u _ hg1) (cwV 1 hts gX0_useOf_X0_has rfl rfl rfl (by decide +kernel) ⟨Nat.le_of_ble_eq_true rfl, Nat.le_of_ble_eq_true rfl⟩) (mt_T_cup hc) rfl rfl hl.1 rfl (Nat.le_of_ble_eq_true rfl) dX0_useOf_2 ⟨Nat.zero_le _, Nat.zero_le _⟩) hS (fun H locs hH hS => ?_)
  refine lv_if_eq (tgt := 17) hx hb dX0_useOf_5 (by decide) (fun c3 => ?_) (fun c3 => ?_)
  · have hf := mt_ifT c3 hf
    refine lv_iconst (v := 0) hx hb dX0_useOf_17 (by decide) ?_
    have i1 := mt_so1 hf
    subst i1
    exact mt_iret hx hb hr hI hH hS hlocks dX0_useOf_18
  · have hf := mt_ifF c3 hf
    refine lv_aload_n hx hb dX0_useOf_8 rfl (lv_at hl 0 rfl) ?_
    refine mt_getr (C := RX0) (T := TX0) (N := 12) hx hb hts hinX0 hown hI hH (mt_T_cup hc) rfl 3 (by decide) kw0 rfl rfl dX0_useOf_9 ?_
    refine lv_iload_n hx hb dX0_useOf_12 rfl (lv_at hl 1 rfl) ?_
    refine mt_ciI hf (fun q4 hf => ?_)
    refine mt_iald hx hb hI hH (mt_T_cupA hc 3 (by decide) (by decide)) q4 dX0_useOf_13 ?_
    refine lv_goto (tgt := 18) hx hb dX0_useOf_14 (by decide) ?_
    have i1 := mt_so1 hf
    subst i1
    exact mt_iret hx hb hr hI hH hS hlocks dX0_useOf_18
set_option maxHeartbeats 4000000 in
set_option maxRecDepth 100000 in
theorem c_X0_stockOf (l : Launch) (E : mt_E) (c : Nat) (hc : mt_cup c) (a1 : Int32) (M : mt_M) (u : mt_U) (r : Int32) (hf : f_X0_stockOf c a1 M = some (r)) : Met l yX0_stockOf wsX0_stockOf ({ frames := 1, cells := 0, slots := 0, locals := 21 } : Room) (mt_P E [.ref (E.2.1 c), .int a1] M u) (mt_Qi E r M u) 0 0 (mt_A E) := by
  refine Met.ofW (cc := cX0_stockOf) (maxL := 2) (ret := (some .int)) (by decide) rfl ?_
  intro p e s mid args below meth c0 s₁ B hml hv
  obtain ⟨rfl, hI, hH⟩ := hv
  have hx := B.exec
  have hb := B.bytes
  have hr := B.returns
  have hts := atoms_spec (ws := wsX0_stockOf) B.pre
  have hown : s.vm.findClass RX0 = some mid.cls := findClass_of_methodNamed B.named
  have hlocks := B.notSynchronized
  have hS : va_S (mt_A E) s.heap s.heap [] := va_S.rf
  have hl := lv_entry ([.ref (E.2.1 c), .int a1]) (n := 2) (Nat.le_of_ble_eq_true rfl)
  rw [lg_entry_eq]
  generalize (lg_sl ([.ref (E.2.1 c), .int a1]) ++ List.replicate (2 - (lg_sl ([.ref (E.2.1 c), .int a1])).length) Slot.unset).toArray = ls at hl ⊢
  have hl : lv_has ls 2 [(0, .ref (E.2.1 c)), (1, .int a1)] := hl
  unfold f_X0_stockOf at hf
  have kw0 := hts (.fieldLink RX0 27 "MilkTwice$Cupboard" "stock" "[I") (List.mem_of_getElem? (i := 1) rfl)
  have hinX0 : ∀ w ∈ u_ws RX0 TX0 12, w ∈ wsX0_stockOf := fun w h => List.mem_cons_of_mem _ (List.mem_append_right _ h)
  refine lv_aload_n hx hb dX0_stockOf_0 rfl (lv_at hl 0 rfl) ?_
  refine lv_iload_n hx hb dX0_stockOf_1 rfl (lv_at hl 1 rfl) ?_
  refine mt_b1I hf (fun r2 hg1 hf => ?_)
  refine mt_goi (mt_runV (i := c) (As := [.int a1]) (rest := []) ⟨hx, hb, hml, hown, hts⟩ hI hH (c_X0_has l E c hc a1 M u _ hg1) (cwV 1 hts gX0_stockOf_X0_has rfl rfl rfl (by decide +kernel) ⟨Nat.le_of_ble_eq_true rfl, Nat.le_of_ble_eq_true rfl⟩) (mt_T_cup hc) rfl rfl hl.1 rfl (Nat.le_of_ble_eq_true rfl) dX0_stockOf_2 ⟨Nat.zero_le _, Nat.zero_le _⟩) hS (fun H locs hH hS => ?_)
  refine lv_if_eq (tgt := 17) hx hb dX0_stockOf_5 (by decide) (fun c3 => ?_) (fun c3 => ?_)
  · have hf := mt_ifT c3 hf
    refine lv_iconst (v := 0) hx hb dX0_stockOf_17 (by decide) ?_
    have i1 := mt_so1 hf
    subst i1
    exact mt_iret hx hb hr hI hH hS hlocks dX0_stockOf_18
  · have hf := mt_ifF c3 hf
    refine lv_aload_n hx hb dX0_stockOf_8 rfl (lv_at hl 0 rfl) ?_
    refine mt_getr (C := RX0) (T := TX0) (N := 12) hx hb hts hinX0 hown hI hH (mt_T_cup hc) rfl 6 (by decide) kw0 rfl rfl dX0_stockOf_9 ?_
    refine lv_iload_n hx hb dX0_stockOf_12 rfl (lv_at hl 1 rfl) ?_
    refine mt_ciI hf (fun q4 hf => ?_)
    refine mt_iald hx hb hI hH (mt_T_cupA hc 6 (by decide) (by decide)) q4 dX0_stockOf_13 ?_
    refine lv_goto (tgt := 18) hx hb dX0_stockOf_14 (by decide) ?_
    have i1 := mt_so1 hf
    subst i1
    exact mt_iret hx hb hr hI hH hS hlocks dX0_stockOf_18
set_option maxHeartbeats 4000000 in
set_option maxRecDepth 100000 in
theorem c_X0_putStock (l : Launch) (E : mt_E) (c : Nat) (hc : mt_cup c) (a1 : Int32) (a2 : Int32) (M : mt_M) (u : mt_U) (M' : mt_M) (hf : f_X0_putStock c a1 a2 M = some (M')) : Met l yX0_putStock wsX0_putStock ({ frames := 1, cells := 0, slots := 0, locals := 21 } : Room) (mt_P E [.ref (E.2.1 c), .int a1, .int a2] M u) (mt_Qv E M' u) 0 0 (mt_A E) := by
  refine Met.ofW (cc := cX0_putStock) (maxL := 3) (ret := none) (by decide) rfl ?_
  intro p e s mid args below meth c0 s₁ B hml hv
  obtain ⟨rfl, hI, hH⟩ := hv
  have hx := B.exec
  have hb := B.bytes
  have hr := B.returns
  have hts := atoms_spec (ws := wsX0_putStock) B.pre
  have hown : s.vm.findClass RX0 = some mid.cls := findClass_of_methodNamed B.named
  have hlocks := B.notSynchronized
  have hS : va_S (mt_A E) s.heap s.heap [] := va_S.rf
  have hl := lv_entry ([.ref (E.2.1 c), .int a1, .int a2]) (n := 3) (Nat.le_of_ble_eq_true rfl)
  rw [lg_entry_eq]
  generalize (lg_sl ([.ref (E.2.1 c), .int a1, .int a2]) ++ List.replicate (3 - (lg_sl ([.ref (E.2.1 c), .int a1, .int a2])).length) Slot.unset).toArray = ls at hl ⊢
  have hl : lv_has ls 3 [(0, .ref (E.2.1 c)), (1, .int a1), (2, .int a2)] := hl
  unfold f_X0_putStock at hf
  have kw0 := hts (.fieldLink RX0 27 "MilkTwice$Cupboard" "stock" "[I") (List.mem_of_getElem? (i := 1) rfl)
  have kw1 := hts (.methodLink RX0 82 Lib.Math.min.name) (List.mem_of_getElem? (i := 2) rfl)
  have kw2 := hts (.static Lib.Math.min.name) (List.mem_of_getElem? (i := 3) rfl)
  have kw3 := hts (.initialized "java/lang/Math") (List.mem_of_getElem? (i := 4) rfl)
  have kw4 := hts (.code Lib.Math.min.name Lib.Math.min.code 2 (some .int)) (List.mem_of_getElem? (i := 5) rfl)
  have kw5 := hts (.methodLink RX0 88 Lib.Math.max.name) (List.mem_of_getElem? (i := 6) rfl)
  have kw6 := hts (.static Lib.Math.max.name) (List.mem_of_getElem? (i := 7) rfl)
  have kw7 := hts (.code Lib.Math.max.name Lib.Math.max.code 2 (some .int)) (List.mem_of_getElem? (i := 8) rfl)
  have hinX0 : ∀ w ∈ u_ws RX0 TX0 12, w ∈ wsX0_putStock := fun w h => List.mem_cons_of_mem _ (List.mem_append_right _ h)
  refine lv_aload_n hx hb dX0_putStock_0 rfl (lv_at hl 0 rfl) ?_
  refine lv_iload_n hx hb dX0_putStock_1 rfl (lv_at hl 1 rfl) ?_
  refine mt_b1I hf (fun r2 hg1 hf => ?_)
  refine mt_goi (mt_runV (i := c) (As := [.int a1]) (rest := []) ⟨hx, hb, hml, hown, hts⟩ hI hH (c_X0_has l E c hc a1 M u _ hg1) (cwV 1 hts gX0_putStock_X0_has rfl rfl rfl (by decide +kernel) ⟨Nat.le_of_ble_eq_true rfl, Nat.le_of_ble_eq_true rfl⟩) (mt_T_cup hc) rfl rfl hl.1 rfl (Nat.le_of_ble_eq_true rfl) dX0_putStock_2 ⟨Nat.zero_le _, Nat.zero_le _⟩) hS (fun H locs hH hS => ?_)
  refine lv_if_eq (tgt := 24) hx hb dX0_putStock_5 (by decide) (fun c3 => ?_) (fun c3 => ?_)
  · have hf := mt_ifT c3 hf
    have i1 := mt_so1 hf
    subst i1
    exact mt_vret hx hb hr hI hH hS hlocks dX0_putStock_24
  · have hf := mt_ifF c3 hf
    refine lv_aload_n hx hb dX0_putStock_8 rfl (lv_at hl 0 rfl) ?_
    refine mt_getr (C := RX0) (T := TX0) (N := 12) hx hb hts hinX0 hown hI hH (mt_T_cup hc) rfl 6 (by decide) kw0 rfl rfl dX0_putStock_9 ?_
    refine lv_iload_n hx hb dX0_putStock_12 rfl (lv_at hl 1 rfl) ?_
    refine lv_iconst (v := 0) hx hb dX0_putStock_13 (by decide) ?_
    refine lv_bipush (v := 99) hx hb dX0_putStock_14 (by decide) ?_
    refine lv_iload_n hx hb dX0_putStock_16 rfl (lv_at hl 2 rfl) ?_
    refine va_mmin hx hb (hml.trans hl.1.symm) hown kw1 kw2 kw3 kw4 (Nat.le_of_ble_eq_true rfl) (Nat.le_of_ble_eq_true rfl) (Nat.zero_le _) (Nat.zero_le _) dX0_putStock_17 ?_
    refine mt_lti hf (fun x4 ex4 hf => ?_)
    refine va_mmax hx hb (hml.trans hl.1.symm) hown kw5 kw6 kw3 kw7 (Nat.le_of_ble_eq_true rfl) (Nat.le_of_ble_eq_true rfl) (Nat.zero_le _) (Nat.zero_le _) dX0_putStock_20 ?_
    refine mt_lti hf (fun x5 ex5 hf => ?_)
    refine mt_ciI hf (fun q7 hf => ?_)
    refine mt_iast hx hb hI hH hS (mt_T_cupA hc 6 (by decide) (by decide)) q7 dX0_putStock_23 (fun H locs hH hS => ?_)
    refine mt_ltI hf (fun M6 eM6 hf => ?_)
    rw [← eM6] at hH
    have i1 := mt_so1 hf
    subst i1
    exact mt_vret hx hb hr hI hH hS hlocks dX0_putStock_24
set_option maxHeartbeats 4000000 in
set_option maxRecDepth 100000 in
theorem c_X0_priceOf (l : Launch) (E : mt_E) (c : Nat) (hc : mt_cup c) (a1 : Int32) (M : mt_M) (u : mt_U) (r : Int32) (hf : f_X0_priceOf c a1 M = some (r)) : Met l yX0_priceOf wsX0_priceOf ({ frames := 1, cells := 0, slots := 0, locals := 21 } : Room) (mt_P E [.ref (E.2.1 c), .int a1] M u) (mt_Qi E r M u) 0 0 (mt_A E) := by
  refine Met.ofW (cc := cX0_priceOf) (maxL := 2) (ret := (some .int)) (by decide) rfl ?_
  intro p e s mid args below meth c0 s₁ B hml hv
  obtain ⟨rfl, hI, hH⟩ := hv
  have hx := B.exec
  have hb := B.bytes
  have hr := B.returns
  have hts := atoms_spec (ws := wsX0_priceOf) B.pre
  have hown : s.vm.findClass RX0 = some mid.cls := findClass_of_methodNamed B.named
  have hlocks := B.notSynchronized
  have hS : va_S (mt_A E) s.heap s.heap [] := va_S.rf
  have hl := lv_entry ([.ref (E.2.1 c), .int a1]) (n := 2) (Nat.le_of_ble_eq_true rfl)
  rw [lg_entry_eq]
  generalize (lg_sl ([.ref (E.2.1 c), .int a1]) ++ List.replicate (2 - (lg_sl ([.ref (E.2.1 c), .int a1])).length) Slot.unset).toArray = ls at hl ⊢
  have hl : lv_has ls 2 [(0, .ref (E.2.1 c)), (1, .int a1)] := hl
  unfold f_X0_priceOf at hf
  have kw0 := hts (.fieldLink RX0 21 "MilkTwice$Cupboard" "price" "[I") (List.mem_of_getElem? (i := 1) rfl)
  have hinX0 : ∀ w ∈ u_ws RX0 TX0 12, w ∈ wsX0_priceOf := fun w h => List.mem_cons_of_mem _ (List.mem_append_right _ h)
  refine lv_aload_n hx hb dX0_priceOf_0 rfl (lv_at hl 0 rfl) ?_
  refine lv_iload_n hx hb dX0_priceOf_1 rfl (lv_at hl 1 rfl) ?_
  refine mt_b1I hf (fun r2 hg1 hf => ?_)
  refine mt_goi (mt_runV (i := c) (As := [.int a1]) (rest := []) ⟨hx, hb, hml, hown, hts⟩ hI hH (c_X0_has l E c hc a1 M u _ hg1) (cwV 1 hts gX0_priceOf_X0_has rfl rfl rfl (by decide +kernel) ⟨Nat.le_of_ble_eq_true rfl, Nat.le_of_ble_eq_true rfl⟩) (mt_T_cup hc) rfl rfl hl.1 rfl (Nat.le_of_ble_eq_true rfl) dX0_priceOf_2 ⟨Nat.zero_le _, Nat.zero_le _⟩) hS (fun H locs hH hS => ?_)
  refine lv_if_eq (tgt := 17) hx hb dX0_priceOf_5 (by decide) (fun c3 => ?_) (fun c3 => ?_)
  · have hf := mt_ifT c3 hf
    refine lv_iconst (v := 0) hx hb dX0_priceOf_17 (by decide) ?_
    have i1 := mt_so1 hf
    subst i1
    exact mt_iret hx hb hr hI hH hS hlocks dX0_priceOf_18
  · have hf := mt_ifF c3 hf
    refine lv_aload_n hx hb dX0_priceOf_8 rfl (lv_at hl 0 rfl) ?_
    refine mt_getr (C := RX0) (T := TX0) (N := 12) hx hb hts hinX0 hown hI hH (mt_T_cup hc) rfl 4 (by decide) kw0 rfl rfl dX0_priceOf_9 ?_
    refine lv_iload_n hx hb dX0_priceOf_12 rfl (lv_at hl 1 rfl) ?_
    refine mt_ciI hf (fun q4 hf => ?_)
    refine mt_iald hx hb hI hH (mt_T_cupA hc 4 (by decide) (by decide)) q4 dX0_priceOf_13 ?_
    refine lv_goto (tgt := 18) hx hb dX0_priceOf_14 (by decide) ?_
    have i1 := mt_so1 hf
    subst i1
    exact mt_iret hx hb hr hI hH hS hlocks dX0_priceOf_18
set_option maxHeartbeats 4000000 in
set_option maxRecDepth 100000 in
theorem c_X0_packOf (l : Launch) (E : mt_E) (c : Nat) (hc : mt_cup c) (a1 : Int32) (M : mt_M) (u : mt_U) (r : Int32) (hf : f_X0_packOf c a1 M = some (r)) : Met l yX0_packOf wsX0_packOf ({ frames := 1, cells := 0, slots := 0, locals := 21 } : Room) (mt_P E [.ref (E.2.1 c), .int a1] M u) (mt_Qi E r M u) 0 0 (mt_A E) := by
  refine Met.ofW (cc := cX0_packOf) (maxL := 2) (ret := (some .int)) (by decide) rfl ?_
  intro p e s mid args below meth c0 s₁ B hml hv
  obtain ⟨rfl, hI, hH⟩ := hv
  have hx := B.exec
  have hb := B.bytes
  have hr := B.returns
  have hts := atoms_spec (ws := wsX0_packOf) B.pre
  have hown : s.vm.findClass RX0 = some mid.cls := findClass_of_methodNamed B.named
  have hlocks := B.notSynchronized
  have hS : va_S (mt_A E) s.heap s.heap [] := va_S.rf
  have hl := lv_entry ([.ref (E.2.1 c), .int a1]) (n := 2) (Nat.le_of_ble_eq_true rfl)
  rw [lg_entry_eq]
  generalize (lg_sl ([.ref (E.2.1 c), .int a1]) ++ List.replicate (2 - (lg_sl ([.ref (E.2.1 c), .int a1])).length) Slot.unset).toArray = ls at hl ⊢
  have hl : lv_has ls 2 [(0, .ref (E.2.1 c)), (1, .int a1)] := hl
  unfold f_X0_packOf at hf
  have kw0 := hts (.fieldLink RX0 24 "MilkTwice$Cupboard" "pack" "[I") (List.mem_of_getElem? (i := 1) rfl)
  have hinX0 : ∀ w ∈ u_ws RX0 TX0 12, w ∈ wsX0_packOf := fun w h => List.mem_cons_of_mem _ (List.mem_append_right _ h)
  refine lv_aload_n hx hb dX0_packOf_0 rfl (lv_at hl 0 rfl) ?_
  refine lv_iload_n hx hb dX0_packOf_1 rfl (lv_at hl 1 rfl) ?_
  refine mt_b1I hf (fun r2 hg1 hf => ?_)
  refine mt_goi (mt_runV (i := c) (As := [.int a1]) (rest := []) ⟨hx, hb, hml, hown, hts⟩ hI hH (c_X0_has l E c hc a1 M u _ hg1) (cwV 1 hts gX0_packOf_X0_has rfl rfl rfl (by decide +kernel) ⟨Nat.le_of_ble_eq_true rfl, Nat.le_of_ble_eq_true rfl⟩) (mt_T_cup hc) rfl rfl hl.1 rfl (Nat.le_of_ble_eq_true rfl) dX0_packOf_2 ⟨Nat.zero_le _, Nat.zero_le _⟩) hS (fun H locs hH hS => ?_)
  refine lv_if_eq (tgt := 17) hx hb dX0_packOf_5 (by decide) (fun c3 => ?_) (fun c3 => ?_)
  · have hf := mt_ifT c3 hf
    refine lv_iconst (v := 0) hx hb dX0_packOf_17 (by decide) ?_
    have i1 := mt_so1 hf
    subst i1
    exact mt_iret hx hb hr hI hH hS hlocks dX0_packOf_18
  · have hf := mt_ifF c3 hf
    refine lv_aload_n hx hb dX0_packOf_8 rfl (lv_at hl 0 rfl) ?_
    refine mt_getr (C := RX0) (T := TX0) (N := 12) hx hb hts hinX0 hown hI hH (mt_T_cup hc) rfl 5 (by decide) kw0 rfl rfl dX0_packOf_9 ?_
    refine lv_iload_n hx hb dX0_packOf_12 rfl (lv_at hl 1 rfl) ?_
    refine mt_ciI hf (fun q4 hf => ?_)
    refine mt_iald hx hb hI hH (mt_T_cupA hc 5 (by decide) (by decide)) q4 dX0_packOf_13 ?_
    refine lv_goto (tgt := 18) hx hb dX0_packOf_14 (by decide) ?_
    have i1 := mt_so1 hf
    subst i1
    exact mt_iret hx hb hr hI hH hS hlocks dX0_packOf_18
set_option maxHeartbeats 4000000 in
set_option maxRecDepth 100000 in
theorem c_X0_lostOf (l : Launch) (E : mt_E) (c : Nat) (hc : mt_cup c) (a1 : Int32) (M : mt_M) (u : mt_U) (r : Int32) (hf : f_X0_lostOf c a1 M = some (r)) : Met l yX0_lostOf wsX0_lostOf ({ frames := 2, cells := 0, slots := 0, locals := 42 } : Room) (mt_P E [.ref (E.2.1 c), .int a1] M u) (mt_Qi E r M u) 0 0 (mt_A E) := by
  refine Met.ofW (cc := cX0_lostOf) (maxL := 2) (ret := (some .int)) (by decide) rfl ?_
  intro p e s mid args below meth c0 s₁ B hml hv
  obtain ⟨rfl, hI, hH⟩ := hv
  have hx := B.exec
  have hb := B.bytes
  have hr := B.returns
  have hts := atoms_spec (ws := wsX0_lostOf) B.pre
  have hown : s.vm.findClass RX0 = some mid.cls := findClass_of_methodNamed B.named
  have hlocks := B.notSynchronized
  have hS : va_S (mt_A E) s.heap s.heap [] := va_S.rf
  have hl := lv_entry ([.ref (E.2.1 c), .int a1]) (n := 2) (Nat.le_of_ble_eq_true rfl)
  rw [lg_entry_eq]
  generalize (lg_sl ([.ref (E.2.1 c), .int a1]) ++ List.replicate (2 - (lg_sl ([.ref (E.2.1 c), .int a1])).length) Slot.unset).toArray = ls at hl ⊢
  have hl : lv_has ls 2 [(0, .ref (E.2.1 c)), (1, .int a1)] := hl
  unfold f_X0_lostOf at hf
  have kw0 := hts (.code yX6_lostOf cX6_lostOf 3 (some .int)) (List.mem_of_getElem? (i := 28) rfl)
  refine lv_aload_n hx hb dX0_lostOf_0 rfl (lv_at hl 0 rfl) ?_
  refine lv_iload_n hx hb dX0_lostOf_1 rfl (lv_at hl 1 rfl) ?_
  refine mt_b1I hf (fun r2 hg1 hf => ?_)
  refine mt_gor (mt_runV (i := c) (As := [.int a1]) (rest := []) ⟨hx, hb, hml, hown, hts⟩ hI hH (c_X0_kindOf l E c hc a1 M u _ hg1) (cwV 1 hts gX0_lostOf_X0_kindOf rfl rfl rfl (by decide +kernel) ⟨Nat.le_of_ble_eq_true rfl, Nat.le_of_ble_eq_true rfl⟩) (mt_T_cup hc) rfl rfl hl.1 rfl (Nat.le_of_ble_eq_true rfl) dX0_lostOf_2 ⟨Nat.zero_le _, Nat.zero_le _⟩) hS (fun H locs hH hS => ?_)
  have hr2 : 4 ≤ r2 ∧ r2 < 10 := mt_kindOf_rng hg1
  refine lv_aload_n hx hb dX0_lostOf_5 rfl (lv_at hl 0 rfl) ?_
  refine lv_iload_n hx hb dX0_lostOf_6 rfl (lv_at hl 1 rfl) ?_
  refine mt_b1I hf (fun r4 hg3 hf => ?_)
  refine mt_goi (mt_runV (i := c) (As := [.int a1]) (rest := [.ref (E.2.1 r2)]) ⟨hx, hb, hml, hown, hts⟩ hI hH (c_X0_stockOf l E c hc a1 M u _ hg3) (cwV 1 hts gX0_lostOf_X0_stockOf rfl rfl rfl (by decide +kernel) ⟨Nat.le_of_ble_eq_true rfl, Nat.le_of_ble_eq_true rfl⟩) (mt_T_cup hc) rfl rfl hl.1 rfl (Nat.le_of_ble_eq_true rfl) dX0_lostOf_7 ⟨Nat.zero_le _, Nat.zero_le _⟩) hS (fun H locs hH hS => ?_)
  refine lv_aload_n hx hb dX0_lostOf_10 rfl (lv_at hl 0 rfl) ?_
  refine lv_iload_n hx hb dX0_lostOf_11 rfl (lv_at hl 1 rfl) ?_
  refine mt_b1I hf (fun r6 hg5 hf => ?_)
  refine mt_goi (mt_runV (i := c) (As := [.int a1]) (rest := [.int r4, .ref (E.2.1 r2)]) ⟨hx, hb, hml, hown, hts⟩ hI hH (c_X0_figureOf l E c hc a1 M u _ hg5) (cwV 1 hts gX0_lostOf_X0_figureOf rfl rfl rfl (by decide +kernel) ⟨Nat.le_of_ble_eq_true rfl, Nat.le_of_ble_eq_true rfl⟩) (mt_T_cup hc) rfl rfl hl.1 rfl (Nat.le_of_ble_eq_true rfl) dX0_lostOf_12 ⟨Nat.zero_le _, Nat.zero_le _⟩) hS (fun H locs hH hS => ?_)
  refine mt_b1I hf (fun r8 hg7 hf => ?_)
  have run : va_Run p l e (headSpec wsX0_lostOf ({ frames := 2, cells := 0, slots := 0, locals := 42 } : Room)).room s mid (([.ref (E.2.1 c), .int a1] : List Value).toArray) below meth c0 H locs 0 0 0 0 (F0 mid 15 ls [.int r6, .int r4, .ref (E.2.1 r2)]) [] (mt_Qi E r8 M u ([.ref (E.2.1 r2), .int r4, .int r6] : List Value).toArray) (mt_A E) := by
    rcases mt_kind6 hr2 with rfl | rfl | rfl | rfl | rfl | rfl
    · exact mt_runV (i := 4) (As := [.int r4, .int r6]) (rest := []) ⟨hx, hb, hml, hown, hts⟩ hI hH (c_X6_lostOf l E 4 6 _ _ _ mt_T4 rfl r4 r6 M u _ hg7) (cwV 2 hts gX0_lostOf_X6_lostOf rfl rfl rfl (by decide +kernel) ⟨Nat.le_of_ble_eq_true rfl, Nat.le_of_ble_eq_true rfl⟩) mt_T4 rfl rfl hl.1 rfl (Nat.le_of_ble_eq_true rfl) dX0_lostOf_15 ⟨Nat.zero_le _, Nat.zero_le _⟩
    · exact mt_runU (i := 5) (As := [.int r4, .int r6]) (rest := []) ⟨hx, hb, hml, hown, hts⟩ hI hH (c_X9_lostOf l E 5 9 _ _ _ mt_T5 rfl r4 r6 M u _ hg7) (va_cwO 2 hts gX0_lostOf_X9_lostOf_u101X9 rfl rfl rfl (List.mem_of_getElem? (i := 28) rfl) (by decide +kernel) ⟨Nat.le_of_ble_eq_true rfl, Nat.le_of_ble_eq_true rfl⟩) mt_T5 rfl rfl hl.1 rfl (Nat.le_of_ble_eq_true rfl) dX0_lostOf_15 ⟨Nat.zero_le _, Nat.zero_le _⟩
    · exact mt_runU (i := 6) (As := [.int r4, .int r6]) (rest := []) ⟨hx, hb, hml, hown, hts⟩ hI hH (c_X6_lostOf l E 6 5 _ _ _ mt_T6 rfl r4 r6 M u _ hg7) (va_cwU 2 hts gX0_lostOf_X6_lostOf_u101X5 rfl rfl rfl rfl (by decide +kernel) ⟨Nat.le_of_ble_eq_true rfl, Nat.le_of_ble_eq_true rfl⟩) mt_T6 rfl rfl hl.1 rfl (Nat.le_of_ble_eq_true rfl) dX0_lostOf_15 ⟨Nat.zero_le _, Nat.zero_le _⟩
    · exact mt_runU (i := 7) (As := [.int r4, .int r6]) (rest := []) ⟨hx, hb, hml, hown, hts⟩ hI hH (c_X6_lostOf l E 7 1 _ _ _ mt_T7 rfl r4 r6 M u _ hg7) (va_cwU 2 hts gX0_lostOf_X6_lostOf_u101X1 rfl rfl rfl rfl (by decide +kernel) ⟨Nat.le_of_ble_eq_true rfl, Nat.le_of_ble_eq_true rfl⟩) mt_T7 rfl rfl hl.1 rfl (Nat.le_of_ble_eq_true rfl) dX0_lostOf_15 ⟨Nat.zero_le _, Nat.zero_le _⟩
    · exact mt_runU (i := 8) (As := [.int r4, .int r6]) (rest := []) ⟨hx, hb, hml, hown, hts⟩ hI hH (c_X2_lostOf l E 8 2 _ _ _ mt_T8 rfl r4 r6 M u _ hg7) (va_cwO 2 hts gX0_lostOf_X2_lostOf_u101X2 rfl rfl rfl (List.mem_of_getElem? (i := 28) rfl) (by decide +kernel) ⟨Nat.le_of_ble_eq_true rfl, Nat.le_of_ble_eq_true rfl⟩) mt_T8 rfl rfl hl.1 rfl (Nat.le_of_ble_eq_true rfl) dX0_lostOf_15 ⟨Nat.zero_le _, Nat.zero_le _⟩
    · exact mt_runU (i := 9) (As := [.int r4, .int r6]) (rest := []) ⟨hx, hb, hml, hown, hts⟩ hI hH (c_X6_lostOf l E 9 10 _ _ _ mt_T9 rfl r4 r6 M u _ hg7) (va_cwU 2 hts gX0_lostOf_X6_lostOf_u101X10 rfl rfl rfl rfl (by decide +kernel) ⟨Nat.le_of_ble_eq_true rfl, Nat.le_of_ble_eq_true rfl⟩) mt_T9 rfl rfl hl.1 rfl (Nat.le_of_ble_eq_true rfl) dX0_lostOf_15 ⟨Nat.zero_le _, Nat.zero_le _⟩
  refine mt_goi run hS (fun H locs hH hS => ?_)
  have i1 := mt_so1 hf
  subst i1
  exact mt_iret hx hb hr hI hH hS hlocks dX0_lostOf_18
set_option maxHeartbeats 4000000 in
set_option maxRecDepth 100000 in
theorem c_X0_harmOf (l : Launch) (E : mt_E) (c : Nat) (hc : mt_cup c) (a1 : Int32) (a2 : Int32) (M : mt_M) (u : mt_U) (r : Int32) (hf : f_X0_harmOf c a1 a2 M = some (r)) : Met l yX0_harmOf wsX0_harmOf ({ frames := 2, cells := 0, slots := 0, locals := 42 } : Room) (mt_P E [.ref (E.2.1 c), .int a1, .int a2] M u) (mt_Qi E r M u) 0 0 (mt_A E) := by
  refine Met.ofW (cc := cX0_harmOf) (maxL := 3) (ret := (some .int)) (by decide) rfl ?_
  intro p e s mid args below meth c0 s₁ B hml hv
  obtain ⟨rfl, hI, hH⟩ := hv
  have hx := B.exec
  have hb := B.bytes
  have hr := B.returns
  have hts := atoms_spec (ws := wsX0_harmOf) B.pre
  have hown : s.vm.findClass RX0 = some mid.cls := findClass_of_methodNamed B.named
  have hlocks := B.notSynchronized
  have hS : va_S (mt_A E) s.heap s.heap [] := va_S.rf
  have hl := lv_entry ([.ref (E.2.1 c), .int a1, .int a2]) (n := 3) (Nat.le_of_ble_eq_true rfl)
  rw [lg_entry_eq]
  generalize (lg_sl ([.ref (E.2.1 c), .int a1, .int a2]) ++ List.replicate (3 - (lg_sl ([.ref (E.2.1 c), .int a1, .int a2])).length) Slot.unset).toArray = ls at hl ⊢
  have hl : lv_has ls 3 [(0, .ref (E.2.1 c)), (1, .int a1), (2, .int a2)] := hl
  unfold f_X0_harmOf at hf
  have kw0 := hts (.code yX6_harmOfTwo cX6_harmOfTwo 2 (some .int)) (List.mem_of_getElem? (i := 30) rfl)
  refine lv_iload_n hx hb dX0_harmOf_0 rfl (lv_at hl 2 rfl) ?_
  by_cases c1 : a2 = (0 : Int32)
  · have hf := mt_ifT c1 hf
    refine lv_lookup (off := 27) (tgt := 28) hx hb dX0_harmOf_1 (by decide) (by rw [c1]; rfl) (by decide) ?_
    refine lv_iconst (v := 3) hx hb dX0_harmOf_28 (by decide) ?_
    refine lv_aload_n hx hb dX0_harmOf_29 rfl (lv_at hl 0 rfl) ?_
    refine lv_iload_n hx hb dX0_harmOf_30 rfl (lv_at hl 1 rfl) ?_
    refine mt_b1I hf (fun r3 hg2 hf => ?_)
    refine mt_goi (mt_runV (i := c) (As := [.int a1]) (rest := [.int (3 : Int32)]) ⟨hx, hb, hml, hown, hts⟩ hI hH (c_X0_useOf l E c hc a1 M u _ hg2) (cwV 1 hts gX0_harmOf_X0_useOf rfl rfl rfl (by decide +kernel) ⟨Nat.le_of_ble_eq_true rfl, Nat.le_of_ble_eq_true rfl⟩) (mt_T_cup hc) rfl rfl hl.1 rfl (Nat.le_of_ble_eq_true rfl) dX0_harmOf_31 ⟨Nat.zero_le _, Nat.zero_le _⟩) hS (fun H locs hH hS => ?_)
    refine lv_imul hx hb dX0_harmOf_34 ?_
    have i1 := mt_so1 hf
    subst i1
    exact mt_iret hx hb hr hI hH hS hlocks dX0_harmOf_35
  · have hf := mt_ifF c1 hf
    by_cases c4 : a2 = (2 : Int32)
    · have hf := mt_ifT c4 hf
      refine lv_lookup (off := 35) (tgt := 36) hx hb dX0_harmOf_1 (by decide) (by rw [c4]; rfl) (by decide) ?_
      refine lv_aload_n hx hb dX0_harmOf_36 rfl (lv_at hl 0 rfl) ?_
      refine lv_iload_n hx hb dX0_harmOf_37 rfl (lv_at hl 1 rfl) ?_
      refine mt_b1I hf (fun r6 hg5 hf => ?_)
      refine mt_gor (mt_runV (i := c) (As := [.int a1]) (rest := []) ⟨hx, hb, hml, hown, hts⟩ hI hH (c_X0_kindOf l E c hc a1 M u _ hg5) (cwV 1 hts gX0_harmOf_X0_kindOf rfl rfl rfl (by decide +kernel) ⟨Nat.le_of_ble_eq_true rfl, Nat.le_of_ble_eq_true rfl⟩) (mt_T_cup hc) rfl rfl hl.1 rfl (Nat.le_of_ble_eq_true rfl) dX0_harmOf_38 ⟨Nat.zero_le _, Nat.zero_le _⟩) hS (fun H locs hH hS => ?_)
      have hr6 : 4 ≤ r6 ∧ r6 < 10 := mt_kindOf_rng hg5
      refine lv_aload_n hx hb dX0_harmOf_41 rfl (lv_at hl 0 rfl) ?_
      refine lv_iload_n hx hb dX0_harmOf_42 rfl (lv_at hl 1 rfl) ?_
      refine mt_b1I hf (fun r8 hg7 hf => ?_)
      refine mt_goi (mt_runV (i := c) (As := [.int a1]) (rest := [.ref (E.2.1 r6)]) ⟨hx, hb, hml, hown, hts⟩ hI hH (c_X0_priceOf l E c hc a1 M u _ hg7) (cwV 1 hts gX0_harmOf_X0_priceOf rfl rfl rfl (by decide +kernel) ⟨Nat.le_of_ble_eq_true rfl, Nat.le_of_ble_eq_true rfl⟩) (mt_T_cup hc) rfl rfl hl.1 rfl (Nat.le_of_ble_eq_true rfl) dX0_harmOf_43 ⟨Nat.zero_le _, Nat.zero_le _⟩) hS (fun H locs hH hS => ?_)
      refine mt_b1I hf (fun r10 hg9 hf => ?_)
      have run : va_Run p l e (headSpec wsX0_harmOf ({ frames := 2, cells := 0, slots := 0, locals := 42 } : Room)).room s mid (([.ref (E.2.1 c), .int a1, .int a2] : List Value).toArray) below meth c0 H locs 0 0 0 0 (F0 mid 46 ls [.int r8, .ref (E.2.1 r6)]) [] (mt_Qi E r10 M u ([.ref (E.2.1 r6), .int r8] : List Value).toArray) (mt_A E) := by
        rcases mt_kind6 hr6 with rfl | rfl | rfl | rfl | rfl | rfl
        · exact mt_runV (i := 4) (As := [.int r8]) (rest := []) ⟨hx, hb, hml, hown, hts⟩ hI hH (c_X6_harmOfTwo l E 4 6 _ _ _ mt_T4 rfl r8 M u _ hg9) (cwV 1 hts gX0_harmOf_X6_harmOfTwo rfl rfl rfl (by decide +kernel) ⟨Nat.le_of_ble_eq_true rfl, Nat.le_of_ble_eq_true rfl⟩) mt_T4 rfl rfl hl.1 rfl (Nat.le_of_ble_eq_true rfl) dX0_harmOf_46 ⟨Nat.zero_le _, Nat.zero_le _⟩
        · exact mt_runU (i := 5) (As := [.int r8]) (rest := []) ⟨hx, hb, hml, hown, hts⟩ hI hH (c_X9_harmOfTwo l E 5 9 _ _ _ mt_T5 rfl r8 M u _ hg9) (va_cwO 1 hts gX0_harmOf_X9_harmOfTwo_u110X9 rfl rfl rfl (List.mem_of_getElem? (i := 30) rfl) (by decide +kernel) ⟨Nat.le_of_ble_eq_true rfl, Nat.le_of_ble_eq_true rfl⟩) mt_T5 rfl rfl hl.1 rfl (Nat.le_of_ble_eq_true rfl) dX0_harmOf_46 ⟨Nat.zero_le _, Nat.zero_le _⟩
        · exact mt_runU (i := 6) (As := [.int r8]) (rest := []) ⟨hx, hb, hml, hown, hts⟩ hI hH (c_X5_harmOfTwo l E 6 5 _ _ _ mt_T6 rfl r8 M u _ hg9) (va_cwO 1 hts gX0_harmOf_X5_harmOfTwo_u110X5 rfl rfl rfl (List.mem_of_getElem? (i := 30) rfl) (by decide +kernel) ⟨Nat.le_of_ble_eq_true rfl, Nat.le_of_ble_eq_true rfl⟩) mt_T6 rfl rfl hl.1 rfl (Nat.le_of_ble_eq_true rfl) dX0_harmOf_46 ⟨Nat.zero_le _, Nat.zero_le _⟩
        · exact mt_runU (i := 7) (As := [.int r8]) (rest := []) ⟨hx, hb, hml, hown, hts⟩ hI hH (c_X1_harmOfTwo l E 7 1 _ _ _ mt_T7 rfl r8 M u _ hg9) (va_cwO 1 hts gX0_harmOf_X1_harmOfTwo_u110X1 rfl rfl rfl (List.mem_of_getElem? (i := 30) rfl) (by decide +kernel) ⟨Nat.le_of_ble_eq_true rfl, Nat.le_of_ble_eq_true rfl⟩) mt_T7 rfl rfl hl.1 rfl (Nat.le_of_ble_eq_true rfl) dX0_harmOf_46 ⟨Nat.zero_le _, Nat.zero_le _⟩
        · exact mt_runU (i := 8) (As := [.int r8]) (rest := []) ⟨hx, hb, hml, hown, hts⟩ hI hH (c_X9_harmOfTwo l E 8 2 _ _ _ mt_T8 rfl r8 M u _ hg9) (va_cwO 1 hts gX0_harmOf_X9_harmOfTwo_u110X2 rfl rfl rfl (List.mem_of_getElem? (i := 30) rfl) (by decide +kernel) ⟨Nat.le_of_ble_eq_true rfl, Nat.le_of_ble_eq_true rfl⟩) mt_T8 rfl rfl hl.1 rfl (Nat.le_of_ble_eq_true rfl) dX0_harmOf_46 ⟨Nat.zero_le _, Nat.zero_le _⟩
        · exact mt_runU (i := 9) (As := [.int r8]) (rest := []) ⟨hx, hb, hml, hown, hts⟩ hI hH (c_X10_harmOfTwo l E 9 10 _ _ _ mt_T9 rfl r8 M u _ hg9) (va_cwO 1 hts gX0_harmOf_X10_harmOfTwo_u110X10 rfl rfl rfl (List.mem_of_getElem? (i := 30) rfl) (by decide +kernel) ⟨Nat.le_of_ble_eq_true rfl, Nat.le_of_ble_eq_true rfl⟩) mt_T9 rfl rfl hl.1 rfl (Nat.le_of_ble_eq_true rfl) dX0_harmOf_46 ⟨Nat.zero_le _, Nat.zero_le _⟩
      refine mt_goi run hS (fun H locs hH hS => ?_)
      have i1 := mt_so1 hf
      subst i1
      exact mt_iret hx hb hr hI hH hS hlocks dX0_harmOf_49
    · have hf := mt_ifF c4 hf
      refine lv_lookup (off := 49) (tgt := 50) hx hb dX0_harmOf_1 (by decide) (by have e90 := mt_ne (k := 0) (by decide) c1; have e91 := mt_ne (k := 2) (by decide) c4; simp [Op.lookupswitch.offset, e90, e91]) (by decide) ?_
      refine lv_iconst (v := 0) hx hb dX0_harmOf_50 (by decide) ?_
      have i1 := mt_so1 hf
      subst i1
      exact mt_iret hx hb hr hI hH hS hlocks dX0_harmOf_51
set_option maxHeartbeats 4000000 in
set_option maxRecDepth 100000 in
theorem c_X0_tellOf (l : Launch) (E : mt_E) (c : Nat) (hc : mt_cup c) (a1 : Int32) (a2 : Int32) (M : mt_M) (u : mt_U) (r : Int32) (hf : f_X0_tellOf c a1 a2 M = some (r)) : Met l yX0_tellOf wsX0_tellOf ({ frames := 3, cells := 0, slots := 0, locals := 64 } : Room) (mt_P E [.ref (E.2.1 c), .int a1, .int a2] M u) (mt_Qi E r M u) 0 0 (mt_A E) := by
  refine Met.ofW (cc := cX0_tellOf) (maxL := 3) (ret := (some .int)) (by decide) rfl ?_
  intro p e s mid args below meth c0 s₁ B hml hv
  obtain ⟨rfl, hI, hH⟩ := hv
  have hx := B.exec
  have hb := B.bytes
  have hr := B.returns
  have hts := atoms_spec (ws := wsX0_tellOf) B.pre
  have hown : s.vm.findClass RX0 = some mid.cls := findClass_of_methodNamed B.named
  have hlocks := B.notSynchronized
  have hS : va_S (mt_A E) s.heap s.heap [] := va_S.rf
  have hl := lv_entry ([.ref (E.2.1 c), .int a1, .int a2]) (n := 3) (Nat.le_of_ble_eq_true rfl)
  rw [lg_entry_eq]
  generalize (lg_sl ([.ref (E.2.1 c), .int a1, .int a2]) ++ List.replicate (3 - (lg_sl ([.ref (E.2.1 c), .int a1, .int a2])).length) Slot.unset).toArray = ls at hl ⊢
  have hl : lv_has ls 3 [(0, .ref (E.2.1 c)), (1, .int a1), (2, .int a2)] := hl
  unfold f_X0_tellOf at hf
  have kw0 := hts (.fieldLink RX0 9 "MilkTwice$Cupboard" "kind" "[I") (List.mem_of_getElem? (i := 1) rfl)
  have hinX0 : ∀ w ∈ u_ws RX0 TX0 12, w ∈ wsX0_tellOf := fun w h => List.mem_cons_of_mem _ (List.mem_append_right _ h)
  refine lv_iload_n hx hb dX0_tellOf_0 rfl (lv_at hl 2 rfl) ?_
  by_cases c1 : a2 = (0 : Int32)
  · have hf := mt_ifT c1 hf
    refine lv_tableIn (off := 47) (tgt := 48) hx hb dX0_tellOf_1 (by rw [c1]; decide) (by rw [c1]; decide) (by rw [c1]; rfl) (by decide) ?_
    refine lv_aload_n hx hb dX0_tellOf_48 rfl (lv_at hl 0 rfl) ?_
    refine lv_iload_n hx hb dX0_tellOf_49 rfl (lv_at hl 1 rfl) ?_
    refine mt_b1I hf (fun r3 hg2 hf => ?_)
    refine mt_goi (mt_runV (i := c) (As := [.int a1]) (rest := []) ⟨hx, hb, hml, hown, hts⟩ hI hH (c_X0_has l E c hc a1 M u _ hg2) (cwV 1 hts gX0_tellOf_X0_has rfl rfl rfl (by decide +kernel) ⟨Nat.le_of_ble_eq_true rfl, Nat.le_of_ble_eq_true rfl⟩) (mt_T_cup hc) rfl rfl hl.1 rfl (Nat.le_of_ble_eq_true rfl) dX0_tellOf_50 ⟨Nat.zero_le _, Nat.zero_le _⟩) hS (fun H locs hH hS => ?_)
    refine lv_if_eq (tgt := 65) hx hb dX0_tellOf_53 (by decide) (fun c4 => ?_) (fun c4 => ?_)
    · have hf := mt_ifT c4 hf
      refine lv_iconst (v := 0) hx hb dX0_tellOf_65 (by decide) ?_
      have i1 := mt_so1 hf
      subst i1
      exact mt_iret hx hb hr hI hH hS hlocks dX0_tellOf_66
    · have hf := mt_ifF c4 hf
      refine lv_aload_n hx hb dX0_tellOf_56 rfl (lv_at hl 0 rfl) ?_
      refine mt_getr (C := RX0) (T := TX0) (N := 12) hx hb hts hinX0 hown hI hH (mt_T_cup hc) rfl 1 (by decide) kw0 rfl rfl dX0_tellOf_57 ?_
      refine lv_iload_n hx hb dX0_tellOf_60 rfl (lv_at hl 1 rfl) ?_
      refine mt_ciI hf (fun q5 hf => ?_)
      refine mt_iald hx hb hI hH (mt_T_cupA hc 1 (by decide) (by decide)) q5 dX0_tellOf_61 ?_
      refine lv_goto (tgt := 66) hx hb dX0_tellOf_62 (by decide) ?_
      have i1 := mt_so1 hf
      subst i1
      exact mt_iret hx hb hr hI hH hS hlocks dX0_tellOf_66
  · have hf := mt_ifF c1 hf
    by_cases c6 : a2 = (1 : Int32)
    · have hf := mt_ifT c6 hf
      refine lv_tableIn (off := 66) (tgt := 67) hx hb dX0_tellOf_1 (by rw [c6]; decide) (by rw [c6]; decide) (by rw [c6]; rfl) (by decide) ?_
      refine lv_aload_n hx hb dX0_tellOf_67 rfl (lv_at hl 0 rfl) ?_
      refine lv_iload_n hx hb dX0_tellOf_68 rfl (lv_at hl 1 rfl) ?_
      refine mt_b1I hf (fun r8 hg7 hf => ?_)
      refine mt_goi (mt_runV (i := c) (As := [.int a1]) (rest := []) ⟨hx, hb, hml, hown, hts⟩ hI hH (c_X0_figureOf l E c hc a1 M u _ hg7) (cwV 1 hts gX0_tellOf_X0_figureOf rfl rfl rfl (by decide +kernel) ⟨Nat.le_of_ble_eq_true rfl, Nat.le_of_ble_eq_true rfl⟩) (mt_T_cup hc) rfl rfl hl.1 rfl (Nat.le_of_ble_eq_true rfl) dX0_tellOf_69 ⟨Nat.zero_le _, Nat.zero_le _⟩) hS (fun H locs hH hS => ?_)
      have i1 := mt_so1 hf
      subst i1
      exact mt_iret hx hb hr hI hH hS hlocks dX0_tellOf_72
    · have hf := mt_ifF c6 hf
      by_cases c9 : a2 = (2 : Int32)
      · have hf := mt_ifT c9 hf
        refine lv_tableIn (off := 72) (tgt := 73) hx hb dX0_tellOf_1 (by rw [c9]; decide) (by rw [c9]; decide) (by rw [c9]; rfl) (by decide) ?_
        refine lv_aload_n hx hb dX0_tellOf_73 rfl (lv_at hl 0 rfl) ?_
        refine lv_iload_n hx hb dX0_tellOf_74 rfl (lv_at hl 1 rfl) ?_
        refine mt_b1I hf (fun r11 hg10 hf => ?_)
        refine mt_goi (mt_runV (i := c) (As := [.int a1]) (rest := []) ⟨hx, hb, hml, hown, hts⟩ hI hH (c_X0_useOf l E c hc a1 M u _ hg10) (cwV 1 hts gX0_tellOf_X0_useOf rfl rfl rfl (by decide +kernel) ⟨Nat.le_of_ble_eq_true rfl, Nat.le_of_ble_eq_true rfl⟩) (mt_T_cup hc) rfl rfl hl.1 rfl (Nat.le_of_ble_eq_true rfl) dX0_tellOf_75 ⟨Nat.zero_le _, Nat.zero_le _⟩) hS (fun H locs hH hS => ?_)
        have i1 := mt_so1 hf
        subst i1
        exact mt_iret hx hb hr hI hH hS hlocks dX0_tellOf_78
      · have hf := mt_ifF c9 hf
        by_cases c12 : a2 = (3 : Int32)
        · have hf := mt_ifT c12 hf
          refine lv_tableIn (off := 78) (tgt := 79) hx hb dX0_tellOf_1 (by rw [c12]; decide) (by rw [c12]; decide) (by rw [c12]; rfl) (by decide) ?_
          refine lv_aload_n hx hb dX0_tellOf_79 rfl (lv_at hl 0 rfl) ?_
          refine lv_iload_n hx hb dX0_tellOf_80 rfl (lv_at hl 1 rfl) ?_
          refine mt_b1I hf (fun r14 hg13 hf => ?_)
          refine mt_goi (mt_runV (i := c) (As := [.int a1]) (rest := []) ⟨hx, hb, hml, hown, hts⟩ hI hH (c_X0_stockOf l E c hc a1 M u _ hg13) (cwV 1 hts gX0_tellOf_X0_stockOf rfl rfl rfl (by decide +kernel) ⟨Nat.le_of_ble_eq_true rfl, Nat.le_of_ble_eq_true rfl⟩) (mt_T_cup hc) rfl rfl hl.1 rfl (Nat.le_of_ble_eq_true rfl) dX0_tellOf_81 ⟨Nat.zero_le _, Nat.zero_le _⟩) hS (fun H locs hH hS => ?_)
          have i1 := mt_so1 hf
          subst i1
          exact mt_iret hx hb hr hI hH hS hlocks dX0_tellOf_84
        · have hf := mt_ifF c12 hf
          by_cases c15 : a2 = (4 : Int32)
          · have hf := mt_ifT c15 hf
            refine lv_tableIn (off := 84) (tgt := 85) hx hb dX0_tellOf_1 (by rw [c15]; decide) (by rw [c15]; decide) (by rw [c15]; rfl) (by decide) ?_
            refine lv_aload_n hx hb dX0_tellOf_85 rfl (lv_at hl 0 rfl) ?_
            refine lv_iload_n hx hb dX0_tellOf_86 rfl (lv_at hl 1 rfl) ?_
            refine mt_b1I hf (fun r17 hg16 hf => ?_)
            refine mt_goi (mt_runV (i := c) (As := [.int a1]) (rest := []) ⟨hx, hb, hml, hown, hts⟩ hI hH (c_X0_priceOf l E c hc a1 M u _ hg16) (cwV 1 hts gX0_tellOf_X0_priceOf rfl rfl rfl (by decide +kernel) ⟨Nat.le_of_ble_eq_true rfl, Nat.le_of_ble_eq_true rfl⟩) (mt_T_cup hc) rfl rfl hl.1 rfl (Nat.le_of_ble_eq_true rfl) dX0_tellOf_87 ⟨Nat.zero_le _, Nat.zero_le _⟩) hS (fun H locs hH hS => ?_)
            have i1 := mt_so1 hf
            subst i1
            exact mt_iret hx hb hr hI hH hS hlocks dX0_tellOf_90
          · have hf := mt_ifF c15 hf
            by_cases c18 : a2 = (5 : Int32)
            · have hf := mt_ifT c18 hf
              refine lv_tableIn (off := 90) (tgt := 91) hx hb dX0_tellOf_1 (by rw [c18]; decide) (by rw [c18]; decide) (by rw [c18]; rfl) (by decide) ?_
              refine lv_aload_n hx hb dX0_tellOf_91 rfl (lv_at hl 0 rfl) ?_
              refine lv_iload_n hx hb dX0_tellOf_92 rfl (lv_at hl 1 rfl) ?_
              refine mt_b1I hf (fun r20 hg19 hf => ?_)
              refine mt_goi (mt_runV (i := c) (As := [.int a1]) (rest := []) ⟨hx, hb, hml, hown, hts⟩ hI hH (c_X0_packOf l E c hc a1 M u _ hg19) (cwV 1 hts gX0_tellOf_X0_packOf rfl rfl rfl (by decide +kernel) ⟨Nat.le_of_ble_eq_true rfl, Nat.le_of_ble_eq_true rfl⟩) (mt_T_cup hc) rfl rfl hl.1 rfl (Nat.le_of_ble_eq_true rfl) dX0_tellOf_93 ⟨Nat.zero_le _, Nat.zero_le _⟩) hS (fun H locs hH hS => ?_)
              have i1 := mt_so1 hf
              subst i1
              exact mt_iret hx hb hr hI hH hS hlocks dX0_tellOf_96
            · have hf := mt_ifF c18 hf
              by_cases c21 : a2 = (6 : Int32)
              · have hf := mt_ifT c21 hf
                refine lv_tableIn (off := 96) (tgt := 97) hx hb dX0_tellOf_1 (by rw [c21]; decide) (by rw [c21]; decide) (by rw [c21]; rfl) (by decide) ?_
                refine lv_aload_n hx hb dX0_tellOf_97 rfl (lv_at hl 0 rfl) ?_
                refine lv_iload_n hx hb dX0_tellOf_98 rfl (lv_at hl 1 rfl) ?_
                refine mt_b1I hf (fun r23 hg22 hf => ?_)
                refine mt_goi (mt_runV (i := c) (As := [.int a1]) (rest := []) ⟨hx, hb, hml, hown, hts⟩ hI hH (c_X0_lostOf l E c hc a1 M u _ hg22) (cwV 1 hts gX0_tellOf_X0_lostOf rfl rfl rfl (by decide +kernel) ⟨Nat.le_of_ble_eq_true rfl, Nat.le_of_ble_eq_true rfl⟩) (mt_T_cup hc) rfl rfl hl.1 rfl (Nat.le_of_ble_eq_true rfl) dX0_tellOf_99 ⟨Nat.zero_le _, Nat.zero_le _⟩) hS (fun H locs hH hS => ?_)
                have i1 := mt_so1 hf
                subst i1
                exact mt_iret hx hb hr hI hH hS hlocks dX0_tellOf_102
              · have hf := mt_ifF c21 hf
                by_cases c24 : a2 = (7 : Int32)
                · have hf := mt_ifT c24 hf
                  refine lv_tableIn (off := 102) (tgt := 103) hx hb dX0_tellOf_1 (by rw [c24]; decide) (by rw [c24]; decide) (by rw [c24]; rfl) (by decide) ?_
                  refine lv_aload_n hx hb dX0_tellOf_103 rfl (lv_at hl 0 rfl) ?_
                  refine lv_iload_n hx hb dX0_tellOf_104 rfl (lv_at hl 1 rfl) ?_
                  refine lv_iconst (v := 0) hx hb dX0_tellOf_105 (by decide) ?_
                  refine mt_b1I hf (fun r26 hg25 hf => ?_)
                  refine mt_goi (mt_runV (i := c) (As := [.int a1, .int (0 : Int32)]) (rest := []) ⟨hx, hb, hml, hown, hts⟩ hI hH (c_X0_harmOf l E c hc a1 (0 : Int32) M u _ hg25) (cwV 2 hts gX0_tellOf_X0_harmOf rfl rfl rfl (by decide +kernel) ⟨Nat.le_of_ble_eq_true rfl, Nat.le_of_ble_eq_true rfl⟩) (mt_T_cup hc) rfl rfl hl.1 rfl (Nat.le_of_ble_eq_true rfl) dX0_tellOf_106 ⟨Nat.zero_le _, Nat.zero_le _⟩) hS (fun H locs hH hS => ?_)
                  have i1 := mt_so1 hf
                  subst i1
                  exact mt_iret hx hb hr hI hH hS hlocks dX0_tellOf_109
                · have hf := mt_ifF c24 hf
                  refine lv_tableOut (tgt := 110) hx hb dX0_tellOf_1 (mt_tabOut (0) (7) (by decide) (by decide) (fun n hn => ?_)) (by decide) ?_
                  · rcases (show n = 0 ∨ n = 1 ∨ n = 2 ∨ n = 3 ∨ n = 4 ∨ n = 5 ∨ n = 6 ∨ n = 7 from by omega) with rfl | rfl | rfl | rfl | rfl | rfl | rfl | rfl
                    · exact fun e9 => c1 (e9.trans (by decide))
                    · exact fun e9 => c6 (e9.trans (by decide))
                    · exact fun e9 => c9 (e9.trans (by decide))
                    · exact fun e9 => c12 (e9.trans (by decide))
                    · exact fun e9 => c15 (e9.trans (by decide))
                    · exact fun e9 => c18 (e9.trans (by decide))
                    · exact fun e9 => c21 (e9.trans (by decide))
                    · exact fun e9 => c24 (e9.trans (by decide))
                  · refine lv_aload_n hx hb dX0_tellOf_110 rfl (lv_at hl 0 rfl) ?_
                    refine lv_iload_n hx hb dX0_tellOf_111 rfl (lv_at hl 1 rfl) ?_
                    refine lv_iconst (v := 2) hx hb dX0_tellOf_112 (by decide) ?_
                    refine mt_b1I hf (fun r28 hg27 hf => ?_)
                    refine mt_goi (mt_runV (i := c) (As := [.int a1, .int (2 : Int32)]) (rest := []) ⟨hx, hb, hml, hown, hts⟩ hI hH (c_X0_harmOf l E c hc a1 (2 : Int32) M u _ hg27) (cwV 2 hts gX0_tellOf_X0_harmOf rfl rfl rfl (by decide +kernel) ⟨Nat.le_of_ble_eq_true rfl, Nat.le_of_ble_eq_true rfl⟩) (mt_T_cup hc) rfl rfl hl.1 rfl (Nat.le_of_ble_eq_true rfl) dX0_tellOf_113 ⟨Nat.zero_le _, Nat.zero_le _⟩) hS (fun H locs hH hS => ?_)
                    have i1 := mt_so1 hf
                    subst i1
                    exact mt_iret hx hb hr hI hH hS hlocks dX0_tellOf_116
set_option maxHeartbeats 4000000 in
set_option maxRecDepth 100000 in
theorem c_X0_buy (l : Launch) (E : mt_E) (c : Nat) (hc : mt_cup c) (a1 : Int32) (a2 : Int32) (M : mt_M) (u : mt_U) (M' : mt_M) (hf : f_X0_buy c a1 a2 M = some (M')) : Met l yX0_buy wsX0_buy ({ frames := 2, cells := 0, slots := 0, locals := 43 } : Room) (mt_P E [.ref (E.2.1 c), .int a1, .int a2] M u) (mt_Qv E M' u) 0 0 (mt_A E) := by
  refine Met.ofW (cc := cX0_buy) (maxL := 3) (ret := none) (by decide) rfl ?_
  intro p e s mid args below meth c0 s₁ B hml hv
  obtain ⟨rfl, hI, hH⟩ := hv
  have hx := B.exec
  have hb := B.bytes
  have hr := B.returns
  have hts := atoms_spec (ws := wsX0_buy) B.pre
  have hown : s.vm.findClass RX0 = some mid.cls := findClass_of_methodNamed B.named
  have hlocks := B.notSynchronized
  have hS : va_S (mt_A E) s.heap s.heap [] := va_S.rf
  have hl := lv_entry ([.ref (E.2.1 c), .int a1, .int a2]) (n := 3) (Nat.le_of_ble_eq_true rfl)
  rw [lg_entry_eq]
  generalize (lg_sl ([.ref (E.2.1 c), .int a1, .int a2]) ++ List.replicate (3 - (lg_sl ([.ref (E.2.1 c), .int a1, .int a2])).length) Slot.unset).toArray = ls at hl ⊢
  have hl : lv_has ls 3 [(0, .ref (E.2.1 c)), (1, .int a1), (2, .int a2)] := hl
  unfold f_X0_buy at hf
  have kw0 := hts (.fieldLink RX0 47 "MilkTwice$Cupboard" "pence" "I") (List.mem_of_getElem? (i := 1) rfl)
  have hinX0 : ∀ w ∈ u_ws RX0 TX0 12, w ∈ wsX0_buy := fun w h => List.mem_cons_of_mem _ (List.mem_append_right _ h)
  refine lv_aload_n hx hb dX0_buy_0 rfl (lv_at hl 0 rfl) ?_
  refine lv_iload_n hx hb dX0_buy_1 rfl (lv_at hl 1 rfl) ?_
  refine lv_aload_n hx hb dX0_buy_2 rfl (lv_at hl 0 rfl) ?_
  refine lv_iload_n hx hb dX0_buy_3 rfl (lv_at hl 1 rfl) ?_
  refine mt_b1I hf (fun r2 hg1 hf => ?_)
  refine mt_goi (mt_runV (i := c) (As := [.int a1]) (rest := [.int a1, .ref (E.2.1 c)]) ⟨hx, hb, hml, hown, hts⟩ hI hH (c_X0_stockOf l E c hc a1 M u _ hg1) (cwV 1 hts gX0_buy_X0_stockOf rfl rfl rfl (by decide +kernel) ⟨Nat.le_of_ble_eq_true rfl, Nat.le_of_ble_eq_true rfl⟩) (mt_T_cup hc) rfl rfl hl.1 rfl (Nat.le_of_ble_eq_true rfl) dX0_buy_4 ⟨Nat.zero_le _, Nat.zero_le _⟩) hS (fun H locs hH hS => ?_)
  refine lv_iload_n hx hb dX0_buy_7 rfl (lv_at hl 2 rfl) ?_
  refine lv_aload_n hx hb dX0_buy_8 rfl (lv_at hl 0 rfl) ?_
  refine lv_iload_n hx hb dX0_buy_9 rfl (lv_at hl 1 rfl) ?_
  refine mt_b1I hf (fun r4 hg3 hf => ?_)
  refine mt_goi (mt_runV (i := c) (As := [.int a1]) (rest := [.int a2, .int r2, .int a1, .ref (E.2.1 c)]) ⟨hx, hb, hml, hown, hts⟩ hI hH (c_X0_packOf l E c hc a1 M u _ hg3) (cwV 1 hts gX0_buy_X0_packOf rfl rfl rfl (by decide +kernel) ⟨Nat.le_of_ble_eq_true rfl, Nat.le_of_ble_eq_true rfl⟩) (mt_T_cup hc) rfl rfl hl.1 rfl (Nat.le_of_ble_eq_true rfl) dX0_buy_10 ⟨Nat.zero_le _, Nat.zero_le _⟩) hS (fun H locs hH hS => ?_)
  refine lv_imul hx hb dX0_buy_13 ?_
  refine lv_iadd hx hb dX0_buy_14 ?_
  refine mt_b1I hf (fun M6 hg5 hf => ?_)
  refine mt_gov (mt_runV (i := c) (As := [.int a1, .int (r2 + (a2 * r4))]) (rest := []) ⟨hx, hb, hml, hown, hts⟩ hI hH (c_X0_putStock l E c hc a1 (r2 + (a2 * r4)) M u _ hg5) (cwV 2 hts gX0_buy_X0_putStock rfl rfl rfl (by decide +kernel) ⟨Nat.le_of_ble_eq_true rfl, Nat.le_of_ble_eq_true rfl⟩) (mt_T_cup hc) rfl rfl hl.1 rfl (Nat.le_of_ble_eq_true rfl) dX0_buy_15 ⟨Nat.zero_le _, Nat.zero_le _⟩) hS (fun H locs hH hS => ?_)
  refine lv_aload_n hx hb dX0_buy_18 rfl (lv_at hl 0 rfl) ?_
  refine lv_dup hx hb dX0_buy_19 rfl ?_
  refine mt_geti (C := RX0) (T := TX0) (N := 12) hx hb hts hinX0 hown hI hH (mt_T_cup hc) rfl 9 (by decide) kw0 rfl rfl dX0_buy_20 ?_
  refine lv_iload_n hx hb dX0_buy_23 rfl (lv_at hl 2 rfl) ?_
  refine lv_aload_n hx hb dX0_buy_24 rfl (lv_at hl 0 rfl) ?_
  refine lv_iload_n hx hb dX0_buy_25 rfl (lv_at hl 1 rfl) ?_
  refine mt_b1I hf (fun r8 hg7 hf => ?_)
  refine mt_goi (mt_runV (i := c) (As := [.int a1]) (rest := [.int a2, .int (M6 c 9), .ref (E.2.1 c)]) ⟨hx, hb, hml, hown, hts⟩ hI hH (c_X0_priceOf l E c hc a1 M6 u _ hg7) (cwV 1 hts gX0_buy_X0_priceOf rfl rfl rfl (by decide +kernel) ⟨Nat.le_of_ble_eq_true rfl, Nat.le_of_ble_eq_true rfl⟩) (mt_T_cup hc) rfl rfl hl.1 rfl (Nat.le_of_ble_eq_true rfl) dX0_buy_26 ⟨Nat.zero_le _, Nat.zero_le _⟩) hS (fun H locs hH hS => ?_)
  refine lv_imul hx hb dX0_buy_29 ?_
  refine lv_iadd hx hb dX0_buy_30 ?_
  refine mt_puti (ty := .int) (C := RX0) (T := TX0) (N := 12) hx hb hts hinX0 tyX0 tyX0_ok nmX0 hown hI hH hS (mt_T_cup hc) rfl 9 (by decide) kw0 rfl rfl (by decide +kernel) rfl rfl rfl dX0_buy_31 (fun H locs hH hS => ?_)
  refine mt_ltI hf (fun M9 eM9 hf => ?_)
  rw [← eM9] at hH
  have i1 := mt_so1 hf
  subst i1
  exact mt_vret hx hb hr hI hH hS hlocks dX0_buy_34
set_option maxHeartbeats 4000000 in
set_option maxRecDepth 100000 in
theorem c_X0_liveDayOf (l : Launch) (E : mt_E) (c : Nat) (hc : mt_cup c) (a1 : Int32) (M : mt_M) (u : mt_U) (r : Int32) (M' : mt_M) (hf : f_X0_liveDayOf c a1 M = some (r, M')) : Met l yX0_liveDayOf wsX0_liveDayOf ({ frames := 1, cells := 0, slots := 0, locals := 22 } : Room) (mt_P E [.ref (E.2.1 c), .int a1] M u) (mt_Qi E r M' u) 0 0 (mt_A E) := by
  refine Met.ofW (cc := cX0_liveDayOf) (maxL := 5) (ret := (some .int)) (by decide) rfl ?_
  intro p e s mid args below meth c0 s₁ B hml hv
  obtain ⟨rfl, hI, hH⟩ := hv
  have hx := B.exec
  have hb := B.bytes
  have hr := B.returns
  have hts := atoms_spec (ws := wsX0_liveDayOf) B.pre
  have hown : s.vm.findClass RX0 = some mid.cls := findClass_of_methodNamed B.named
  have hlocks := B.notSynchronized
  have hS : va_S (mt_A E) s.heap s.heap [] := va_S.rf
  have hl := lv_entry ([.ref (E.2.1 c), .int a1]) (n := 5) (Nat.le_of_ble_eq_true rfl)
  rw [lg_entry_eq]
  generalize (lg_sl ([.ref (E.2.1 c), .int a1]) ++ List.replicate (5 - (lg_sl ([.ref (E.2.1 c), .int a1])).length) Slot.unset).toArray = ls at hl ⊢
  have hl : lv_has ls 5 [(0, .ref (E.2.1 c)), (1, .int a1)] := hl
  unfold f_X0_liveDayOf at hf
  have kw0 := hts (.fieldLink RX0 18 "MilkTwice$Cupboard" "use" "[I") (List.mem_of_getElem? (i := 1) rfl)
  have kw1 := hts (.fieldLink RX0 27 "MilkTwice$Cupboard" "stock" "[I") (List.mem_of_getElem? (i := 2) rfl)
  have kw2 := hts (.methodLink RX0 88 Lib.Math.max.name) (List.mem_of_getElem? (i := 3) rfl)
  have kw3 := hts (.static Lib.Math.max.name) (List.mem_of_getElem? (i := 4) rfl)
  have kw4 := hts (.initialized "java/lang/Math") (List.mem_of_getElem? (i := 5) rfl)
  have kw5 := hts (.code Lib.Math.max.name Lib.Math.max.code 2 (some .int)) (List.mem_of_getElem? (i := 6) rfl)
  have kw6 := hts (.fieldLink RX0 33 "MilkTwice$Cupboard" "kinds" "[LMilkTwice$Kind;") (List.mem_of_getElem? (i := 7) rfl)
  have kw7 := hts (.fieldLink RX0 9 "MilkTwice$Cupboard" "kind" "[I") (List.mem_of_getElem? (i := 8) rfl)
  have kw8 := hts (.fieldLink RX0 15 "MilkTwice$Cupboard" "figure" "[I") (List.mem_of_getElem? (i := 9) rfl)
  have kw9 := hts (.fieldLink RX0 50 "MilkTwice$Cupboard" "lacked" "I") (List.mem_of_getElem? (i := 10) rfl)
  have kw10 := hts (.fieldLink RX0 53 "MilkTwice$Cupboard" "spoilt" "I") (List.mem_of_getElem? (i := 11) rfl)
  have kw11 := hts (.code yX6_lostOf cX6_lostOf 3 (some .int)) (List.mem_of_getElem? (i := 23) rfl)
  have hinX0 : ∀ w ∈ u_ws RX0 TX0 12, w ∈ wsX0_liveDayOf := fun w h => List.mem_cons_of_mem _ (List.mem_append_right _ h)
  refine lv_aload_n hx hb dX0_liveDayOf_0 rfl (lv_at hl 0 rfl) ?_
  refine lv_iload_n hx hb dX0_liveDayOf_1 rfl (lv_at hl 1 rfl) ?_
  refine mt_b1I hf (fun r2 hg1 hf => ?_)
  refine mt_goi (mt_runV (i := c) (As := [.int a1]) (rest := []) ⟨hx, hb, hml, hown, hts⟩ hI hH (c_X0_has l E c hc a1 M u _ hg1) (cwV 1 hts gX0_liveDayOf_X0_has rfl rfl rfl (by decide +kernel) ⟨Nat.le_of_ble_eq_true rfl, Nat.le_of_ble_eq_true rfl⟩) (mt_T_cup hc) rfl rfl hl.1 rfl (Nat.le_of_ble_eq_true rfl) dX0_liveDayOf_2 ⟨Nat.zero_le _, Nat.zero_le _⟩) hS (fun H locs hH hS => ?_)
  refine lv_if_ne (tgt := 10) hx hb dX0_liveDayOf_5 (by decide) (fun c3 => ?_) (fun c3 => ?_)
  · have hf := mt_ifF c3 hf
    refine lv_iconst (v := 0) hx hb dX0_liveDayOf_10 (by decide) ?_
    refine lv_aload_n hx hb dX0_liveDayOf_11 rfl (lv_at hl 0 rfl) ?_
    refine mt_getr (C := RX0) (T := TX0) (N := 12) hx hb hts hinX0 hown hI hH (mt_T_cup hc) rfl 3 (by decide) kw0 rfl rfl dX0_liveDayOf_12 ?_
    refine lv_iload_n hx hb dX0_liveDayOf_15 rfl (lv_at hl 1 rfl) ?_
    refine mt_ciI hf (fun q4 hf => ?_)
    refine mt_iald hx hb hI hH (mt_T_cupA hc 3 (by decide) (by decide)) q4 dX0_liveDayOf_16 ?_
    refine lv_aload_n hx hb dX0_liveDayOf_17 rfl (lv_at hl 0 rfl) ?_
    refine mt_getr (C := RX0) (T := TX0) (N := 12) hx hb hts hinX0 hown hI hH (mt_T_cup hc) rfl 6 (by decide) kw1 rfl rfl dX0_liveDayOf_18 ?_
    refine lv_iload_n hx hb dX0_liveDayOf_21 rfl (lv_at hl 1 rfl) ?_
    refine mt_ciI hf (fun q5 hf => ?_)
    refine mt_iald hx hb hI hH (mt_T_cupA hc 6 (by decide) (by decide)) q5 dX0_liveDayOf_22 ?_
    refine lv_isub hx hb dX0_liveDayOf_23 ?_
    refine va_mmax hx hb (hml.trans hl.1.symm) hown kw2 kw3 kw4 kw5 (Nat.le_of_ble_eq_true rfl) (Nat.le_of_ble_eq_true rfl) (Nat.zero_le _) (Nat.zero_le _) dX0_liveDayOf_24 ?_
    refine mt_lti hf (fun x6 ex6 hf => ?_)
    refine lv_istore_n (lv' := [(2, .int x6), (0, .ref (E.2.1 c)), (1, .int a1)]) hx hb dX0_liveDayOf_27 rfl hl (by decide) rfl (fun ls hl => ?_)
    refine lv_iconst (v := 0) hx hb dX0_liveDayOf_28 (by decide) ?_
    refine lv_aload_n hx hb dX0_liveDayOf_29 rfl (lv_at hl 1 rfl) ?_
    refine mt_getr (C := RX0) (T := TX0) (N := 12) hx hb hts hinX0 hown hI hH (mt_T_cup hc) rfl 6 (by decide) kw1 rfl rfl dX0_liveDayOf_30 ?_
    refine lv_iload_n hx hb dX0_liveDayOf_33 rfl (lv_at hl 2 rfl) ?_
    refine mt_ciI hf (fun q7 hf => ?_)
    refine mt_iald hx hb hI hH (mt_T_cupA hc 6 (by decide) (by decide)) q7 dX0_liveDayOf_34 ?_
    refine lv_aload_n hx hb dX0_liveDayOf_35 rfl (lv_at hl 1 rfl) ?_
    refine mt_getr (C := RX0) (T := TX0) (N := 12) hx hb hts hinX0 hown hI hH (mt_T_cup hc) rfl 3 (by decide) kw0 rfl rfl dX0_liveDayOf_36 ?_
    refine lv_iload_n hx hb dX0_liveDayOf_39 rfl (lv_at hl 2 rfl) ?_
    refine mt_ciI hf (fun q8 hf => ?_)
    refine mt_iald hx hb hI hH (mt_T_cupA hc 3 (by decide) (by decide)) q8 dX0_liveDayOf_40 ?_
    refine lv_isub hx hb dX0_liveDayOf_41 ?_
    refine va_mmax hx hb (hml.trans hl.1.symm) hown kw2 kw3 kw4 kw5 (Nat.le_of_ble_eq_true rfl) (Nat.le_of_ble_eq_true rfl) (Nat.zero_le _) (Nat.zero_le _) dX0_liveDayOf_42 ?_
    refine mt_lti hf (fun x9 ex9 hf => ?_)
    refine lv_istore_n (lv' := [(3, .int x9), (2, .int x6), (0, .ref (E.2.1 c)), (1, .int a1)]) hx hb dX0_liveDayOf_45 rfl hl (by decide) rfl (fun ls hl => ?_)
    refine lv_aload_n hx hb dX0_liveDayOf_46 rfl (lv_at hl 2 rfl) ?_
    refine mt_getr (C := RX0) (T := TX0) (N := 12) hx hb hts hinX0 hown hI hH (mt_T_cup hc) rfl 0 (by decide) kw6 rfl rfl dX0_liveDayOf_47 ?_
    refine lv_aload_n hx hb dX0_liveDayOf_50 rfl (lv_at hl 2 rfl) ?_
    refine mt_getr (C := RX0) (T := TX0) (N := 12) hx hb hts hinX0 hown hI hH (mt_T_cup hc) rfl 1 (by decide) kw7 rfl rfl dX0_liveDayOf_51 ?_
    refine lv_iload_n hx hb dX0_liveDayOf_54 rfl (lv_at hl 3 rfl) ?_
    refine mt_ciI hf (fun q10 hf => ?_)
    refine mt_iald hx hb hI hH (mt_T_cupA hc 1 (by decide) (by decide)) q10 dX0_liveDayOf_55 ?_
    refine mt_ciI hf (fun q11 hf => ?_)
    refine mt_aldK hx hb hI hH q11 dX0_liveDayOf_56 ?_
    refine mt_ltr hf (fun g12 eg12 hf => ?_)
    have hg12 : 4 ≤ g12 ∧ g12 < 10 := mt_kind_ix q11 eg12
    refine lv_iload_n hx hb dX0_liveDayOf_57 rfl (lv_at hl 0 rfl) ?_
    refine lv_aload_n hx hb dX0_liveDayOf_58 rfl (lv_at hl 2 rfl) ?_
    refine mt_getr (C := RX0) (T := TX0) (N := 12) hx hb hts hinX0 hown hI hH (mt_T_cup hc) rfl 2 (by decide) kw8 rfl rfl dX0_liveDayOf_59 ?_
    refine lv_iload_n hx hb dX0_liveDayOf_62 rfl (lv_at hl 3 rfl) ?_
    refine mt_ciI hf (fun q13 hf => ?_)
    refine mt_iald hx hb hI hH (mt_T_cupA hc 2 (by decide) (by decide)) q13 dX0_liveDayOf_63 ?_
    refine mt_b1I hf (fun r15 hg14 hf => ?_)
    have run : va_Run p l e (headSpec wsX0_liveDayOf ({ frames := 1, cells := 0, slots := 0, locals := 22 } : Room)).room s mid (([.ref (E.2.1 c), .int a1] : List Value).toArray) below meth c0 H locs 0 0 0 0 (F0 mid 64 ls [.int (M (c + 2) a1.toNatClampNeg), .int x9, .ref (E.2.1 g12)]) [] (mt_Qi E r15 M u ([.ref (E.2.1 g12), .int x9, .int (M (c + 2) a1.toNatClampNeg)] : List Value).toArray) (mt_A E) := by
      rcases mt_kind6 hg12 with rfl | rfl | rfl | rfl | rfl | rfl
      · exact mt_runV (i := 4) (As := [.int x9, .int (M (c + 2) a1.toNatClampNeg)]) (rest := []) ⟨hx, hb, hml, hown, hts⟩ hI hH (c_X6_lostOf l E 4 6 _ _ _ mt_T4 rfl x9 (M (c + 2) a1.toNatClampNeg) M u _ hg14) (cwV 2 hts gX0_liveDayOf_X6_lostOf rfl rfl rfl (by decide +kernel) ⟨Nat.le_of_ble_eq_true rfl, Nat.le_of_ble_eq_true rfl⟩) mt_T4 rfl rfl hl.1 rfl (Nat.le_of_ble_eq_true rfl) dX0_liveDayOf_64 ⟨Nat.zero_le _, Nat.zero_le _⟩
      · exact mt_runU (i := 5) (As := [.int x9, .int (M (c + 2) a1.toNatClampNeg)]) (rest := []) ⟨hx, hb, hml, hown, hts⟩ hI hH (c_X9_lostOf l E 5 9 _ _ _ mt_T5 rfl x9 (M (c + 2) a1.toNatClampNeg) M u _ hg14) (va_cwO 2 hts gX0_liveDayOf_X9_lostOf_u101X9 rfl rfl rfl (List.mem_of_getElem? (i := 23) rfl) (by decide +kernel) ⟨Nat.le_of_ble_eq_true rfl, Nat.le_of_ble_eq_true rfl⟩) mt_T5 rfl rfl hl.1 rfl (Nat.le_of_ble_eq_true rfl) dX0_liveDayOf_64 ⟨Nat.zero_le _, Nat.zero_le _⟩
      · exact mt_runU (i := 6) (As := [.int x9, .int (M (c + 2) a1.toNatClampNeg)]) (rest := []) ⟨hx, hb, hml, hown, hts⟩ hI hH (c_X6_lostOf l E 6 5 _ _ _ mt_T6 rfl x9 (M (c + 2) a1.toNatClampNeg) M u _ hg14) (va_cwU 2 hts gX0_liveDayOf_X6_lostOf_u101X5 rfl rfl rfl rfl (by decide +kernel) ⟨Nat.le_of_ble_eq_true rfl, Nat.le_of_ble_eq_true rfl⟩) mt_T6 rfl rfl hl.1 rfl (Nat.le_of_ble_eq_true rfl) dX0_liveDayOf_64 ⟨Nat.zero_le _, Nat.zero_le _⟩
      · exact mt_runU (i := 7) (As := [.int x9, .int (M (c + 2) a1.toNatClampNeg)]) (rest := []) ⟨hx, hb, hml, hown, hts⟩ hI hH (c_X6_lostOf l E 7 1 _ _ _ mt_T7 rfl x9 (M (c + 2) a1.toNatClampNeg) M u _ hg14) (va_cwU 2 hts gX0_liveDayOf_X6_lostOf_u101X1 rfl rfl rfl rfl (by decide +kernel) ⟨Nat.le_of_ble_eq_true rfl, Nat.le_of_ble_eq_true rfl⟩) mt_T7 rfl rfl hl.1 rfl (Nat.le_of_ble_eq_true rfl) dX0_liveDayOf_64 ⟨Nat.zero_le _, Nat.zero_le _⟩
      · exact mt_runU (i := 8) (As := [.int x9, .int (M (c + 2) a1.toNatClampNeg)]) (rest := []) ⟨hx, hb, hml, hown, hts⟩ hI hH (c_X2_lostOf l E 8 2 _ _ _ mt_T8 rfl x9 (M (c + 2) a1.toNatClampNeg) M u _ hg14) (va_cwO 2 hts gX0_liveDayOf_X2_lostOf_u101X2 rfl rfl rfl (List.mem_of_getElem? (i := 23) rfl) (by decide +kernel) ⟨Nat.le_of_ble_eq_true rfl, Nat.le_of_ble_eq_true rfl⟩) mt_T8 rfl rfl hl.1 rfl (Nat.le_of_ble_eq_true rfl) dX0_liveDayOf_64 ⟨Nat.zero_le _, Nat.zero_le _⟩
      · exact mt_runU (i := 9) (As := [.int x9, .int (M (c + 2) a1.toNatClampNeg)]) (rest := []) ⟨hx, hb, hml, hown, hts⟩ hI hH (c_X6_lostOf l E 9 10 _ _ _ mt_T9 rfl x9 (M (c + 2) a1.toNatClampNeg) M u _ hg14) (va_cwU 2 hts gX0_liveDayOf_X6_lostOf_u101X10 rfl rfl rfl rfl (by decide +kernel) ⟨Nat.le_of_ble_eq_true rfl, Nat.le_of_ble_eq_true rfl⟩) mt_T9 rfl rfl hl.1 rfl (Nat.le_of_ble_eq_true rfl) dX0_liveDayOf_64 ⟨Nat.zero_le _, Nat.zero_le _⟩
    refine mt_goi run hS (fun H locs hH hS => ?_)
    refine lv_istore (lv' := [(4, .int r15), (3, .int x9), (2, .int x6), (0, .ref (E.2.1 c)), (1, .int a1)]) hx hb dX0_liveDayOf_67 hl (by decide) rfl (fun ls hl => ?_)
    refine lv_aload_n hx hb dX0_liveDayOf_69 rfl (lv_at hl 3 rfl) ?_
    refine mt_getr (C := RX0) (T := TX0) (N := 12) hx hb hts hinX0 hown hI hH (mt_T_cup hc) rfl 6 (by decide) kw1 rfl rfl dX0_liveDayOf_70 ?_
    refine lv_iload_n hx hb dX0_liveDayOf_73 rfl (lv_at hl 4 rfl) ?_
    refine lv_iload_n hx hb dX0_liveDayOf_74 rfl (lv_at hl 1 rfl) ?_
    refine lv_iload hx hb dX0_liveDayOf_75 (lv_at hl 0 rfl) ?_
    refine lv_isub hx hb dX0_liveDayOf_77 ?_
    refine mt_ciI hf (fun q17 hf => ?_)
    refine mt_iast hx hb hI hH hS (mt_T_cupA hc 6 (by decide) (by decide)) q17 dX0_liveDayOf_78 (fun H locs hH hS => ?_)
    refine mt_ltI hf (fun M16 eM16 hf => ?_)
    rw [← eM16] at hH
    refine lv_aload_n hx hb dX0_liveDayOf_79 rfl (lv_at hl 3 rfl) ?_
    refine lv_dup hx hb dX0_liveDayOf_80 rfl ?_
    refine mt_geti (C := RX0) (T := TX0) (N := 12) hx hb hts hinX0 hown hI hH (mt_T_cup hc) rfl 10 (by decide) kw9 rfl rfl dX0_liveDayOf_81 ?_
    refine lv_iload_n hx hb dX0_liveDayOf_84 rfl (lv_at hl 2 rfl) ?_
    refine lv_iadd hx hb dX0_liveDayOf_85 ?_
    refine mt_puti (ty := .int) (C := RX0) (T := TX0) (N := 12) hx hb hts hinX0 tyX0 tyX0_ok nmX0 hown hI hH hS (mt_T_cup hc) rfl 10 (by decide) kw9 rfl rfl (by decide +kernel) rfl rfl rfl dX0_liveDayOf_86 (fun H locs hH hS => ?_)
    refine mt_ltI hf (fun M18 eM18 hf => ?_)
    rw [← eM18] at hH
    refine lv_aload_n hx hb dX0_liveDayOf_89 rfl (lv_at hl 3 rfl) ?_
    refine lv_dup hx hb dX0_liveDayOf_90 rfl ?_
    refine mt_geti (C := RX0) (T := TX0) (N := 12) hx hb hts hinX0 hown hI hH (mt_T_cup hc) rfl 11 (by decide) kw10 rfl rfl dX0_liveDayOf_91 ?_
    refine lv_iload hx hb dX0_liveDayOf_94 (lv_at hl 0 rfl) ?_
    refine lv_iadd hx hb dX0_liveDayOf_96 ?_
    refine mt_puti (ty := .int) (C := RX0) (T := TX0) (N := 12) hx hb hts hinX0 tyX0 tyX0_ok nmX0 hown hI hH hS (mt_T_cup hc) rfl 11 (by decide) kw10 rfl rfl (by decide +kernel) rfl rfl rfl dX0_liveDayOf_97 (fun H locs hH hS => ?_)
    refine mt_ltI hf (fun M19 eM19 hf => ?_)
    rw [← eM19] at hH
    refine lv_iload_n hx hb dX0_liveDayOf_100 rfl (lv_at hl 2 rfl) ?_
    obtain ⟨i1, i2⟩ := mt_so2 hf
    subst i1
    subst i2
    exact mt_iret hx hb hr hI hH hS hlocks dX0_liveDayOf_101
  · have hf := mt_ifT c3 hf
    refine lv_iconst (v := 0) hx hb dX0_liveDayOf_8 (by decide) ?_
    obtain ⟨i1, i2⟩ := mt_so2 hf
    subst i1
    subst i2
    exact mt_iret hx hb hr hI hH hS hlocks dX0_liveDayOf_9
set_option maxHeartbeats 4000000 in
set_option maxRecDepth 100000 in
theorem c_X0_liveDay (l : Launch) (E : mt_E) (c : Nat) (hc : mt_cup c) (M : mt_M) (u : mt_U) (r : Int32) (M' : mt_M) (hf : f_X0_liveDay c M = some (r, M')) : Met l yX0_liveDay wsX0_liveDay ({ frames := 2, cells := 0, slots := 0, locals := 46 } : Room) (mt_P E [.ref (E.2.1 c)] M u) (mt_Qi E r M' u) 0 0 (mt_A E) := by
  refine Met.ofW (cc := cX0_liveDay) (maxL := 3) (ret := (some .int)) (by decide) rfl ?_
  intro p e s mid args below meth c0 s₁ B hml hv
  obtain ⟨rfl, hI, hH⟩ := hv
  have hx := B.exec
  have hb := B.bytes
  have hr := B.returns
  have hts := atoms_spec (ws := wsX0_liveDay) B.pre
  have hown : s.vm.findClass RX0 = some mid.cls := findClass_of_methodNamed B.named
  have hlocks := B.notSynchronized
  have hS : va_S (mt_A E) s.heap s.heap [] := va_S.rf
  have hl := lv_entry ([.ref (E.2.1 c)]) (n := 3) (Nat.le_of_ble_eq_true rfl)
  rw [lg_entry_eq]
  generalize (lg_sl ([.ref (E.2.1 c)]) ++ List.replicate (3 - (lg_sl ([.ref (E.2.1 c)])).length) Slot.unset).toArray = ls at hl ⊢
  have hl : lv_has ls 3 [(0, .ref (E.2.1 c))] := hl
  unfold f_X0_liveDay at hf
  have kw0 := hts (.fieldLink RX0 43 "MilkTwice$Cupboard" "things" "I") (List.mem_of_getElem? (i := 1) rfl)
  have hinX0 : ∀ w ∈ u_ws RX0 TX0 12, w ∈ wsX0_liveDay := fun w h => List.mem_cons_of_mem _ (List.mem_append_right _ h)
  refine lv_iconst (v := 0) hx hb dX0_liveDay_0 (by decide) ?_
  refine lv_istore_n (lv' := [(1, .int (0 : Int32)), (0, .ref (E.2.1 c))]) hx hb dX0_liveDay_1 rfl hl (by decide) rfl (fun ls hl => ?_)
  refine lv_iconst (v := 0) hx hb dX0_liveDay_2 (by decide) ?_
  refine lv_istore_n (lv' := [(2, .int (0 : Int32)), (1, .int (0 : Int32)), (0, .ref (E.2.1 c))]) hx hb dX0_liveDay_3 rfl hl (by decide) rfl (fun ls hl => ?_)
  refine mt_lpI3 hf (fun (x1 : Int32) (x2 : Int32) (M3 : mt_M) => ∀ (H : Heap) (locs : List Loc) (ls : Array Slot), mt_H E M3 u H → va_S (mt_A E) s.heap H locs → lv_has ls 3 [(0, .ref (E.2.1 c)), (1, .int x1), (2, .int x2)] → W p l e (headSpec wsX0_liveDay ({ frames := 2, cells := 0, slots := 0, locals := 46 } : Room)).room s mid (([.ref (E.2.1 c)] : List Value).toArray) below meth c0 H locs 0 0 (MQ below (mt_Qi E r M' u) (([.ref (E.2.1 c)] : List Value).toArray) s 0 0 (mt_A E)) (F0 mid 4 ls [])) ?_ _ _ _ hH hS (lv_sub hl [2, 1, 0] rfl)
  intro k4 ih5 x1 x2 M3 hf H locs ls hH hS hl
  refine lv_iload_n hx hb dX0_liveDay_4 rfl (lv_at hl 2 rfl) ?_
  refine lv_aload_n hx hb dX0_liveDay_5 rfl (lv_at hl 0 rfl) ?_
  refine mt_geti (C := RX0) (T := TX0) (N := 12) hx hb hts hinX0 hown hI hH (mt_T_cup hc) rfl 8 (by decide) kw0 rfl rfl dX0_liveDay_6 ?_
  refine lv_icmp_ge (tgt := 26) hx hb dX0_liveDay_9 (by decide) (fun c6 => ?_) (fun c6 => ?_)
  · have hf := mt_ifT c6 hf
    refine lv_iload_n hx hb dX0_liveDay_26 rfl (lv_at hl 1 rfl) ?_
    obtain ⟨i1, i2⟩ := mt_so2 hf
    subst i1
    subst i2
    exact mt_iret hx hb hr hI hH hS hlocks dX0_liveDay_27
  · have hf := mt_ifF c6 hf
    refine lv_iload_n hx hb dX0_liveDay_12 rfl (lv_at hl 1 rfl) ?_
    refine lv_aload_n hx hb dX0_liveDay_13 rfl (lv_at hl 0 rfl) ?_
    refine lv_iload_n hx hb dX0_liveDay_14 rfl (lv_at hl 2 rfl) ?_
    refine mt_b2I hf (fun r8 M9 hg7 hf => ?_)
    refine mt_goi (mt_runV (i := c) (As := [.int x2]) (rest := [.int x1]) ⟨hx, hb, hml, hown, hts⟩ hI hH (c_X0_liveDayOf l E c hc x2 M3 u _ _ hg7) (cwV 1 hts gX0_liveDay_X0_liveDayOf rfl rfl rfl (by decide +kernel) ⟨Nat.le_of_ble_eq_true rfl, Nat.le_of_ble_eq_true rfl⟩) (mt_T_cup hc) rfl rfl hl.1 rfl (Nat.le_of_ble_eq_true rfl) dX0_liveDay_15 ⟨Nat.zero_le _, Nat.zero_le _⟩) hS (fun H locs hH hS => ?_)
    refine lv_iadd hx hb dX0_liveDay_18 ?_
    refine mt_lti hf (fun x10 ex10 hf => ?_)
    refine lv_istore_n (lv' := [(1, .int x10), (0, .ref (E.2.1 c)), (2, .int x2)]) hx hb dX0_liveDay_19 rfl hl (by decide) rfl (fun ls hl => ?_)
    refine mt_ltI hf (fun x11 ex11 hf => ?_)
    refine lv_iinc (v := x11) (lv' := [(2, .int x11), (1, .int x10), (0, .ref (E.2.1 c))]) hx hb dX0_liveDay_20 hl (k := 2) rfl (by rw [ex11]; rfl) (by decide) rfl (fun ls hl => ?_)
    refine lv_goto (tgt := 4) hx hb dX0_liveDay_23 (by decide) ?_
    exact ih5 x10 x11 M9 hf _ _ _ hH hS (lv_sub hl [2, 1, 0] rfl)
set_option maxHeartbeats 4000000 in
set_option maxRecDepth 100000 in
theorem c_X0_changeUses (l : Launch) (E : mt_E) (c : Nat) (hc : mt_cup c) (a1 : Int32) (a2 : Int32) (M : mt_M) (u : mt_U) (M' : mt_M) (hf : f_X0_changeUses c a1 a2 M = some (M')) : Met l yX0_changeUses wsX0_changeUses ({ frames := 1, cells := 0, slots := 0, locals := 21 } : Room) (mt_P E [.ref (E.2.1 c), .int a1, .int a2] M u) (mt_Qv E M' u) 0 0 (mt_A E) := by
  refine Met.ofW (cc := cX0_changeUses) (maxL := 4) (ret := none) (by decide) rfl ?_
  intro p e s mid args below meth c0 s₁ B hml hv
  obtain ⟨rfl, hI, hH⟩ := hv
  have hx := B.exec
  have hb := B.bytes
  have hr := B.returns
  have hts := atoms_spec (ws := wsX0_changeUses) B.pre
  have hown : s.vm.findClass RX0 = some mid.cls := findClass_of_methodNamed B.named
  have hlocks := B.notSynchronized
  have hS : va_S (mt_A E) s.heap s.heap [] := va_S.rf
  have hl := lv_entry ([.ref (E.2.1 c), .int a1, .int a2]) (n := 4) (Nat.le_of_ble_eq_true rfl)
  rw [lg_entry_eq]
  generalize (lg_sl ([.ref (E.2.1 c), .int a1, .int a2]) ++ List.replicate (4 - (lg_sl ([.ref (E.2.1 c), .int a1, .int a2])).length) Slot.unset).toArray = ls at hl ⊢
  have hl : lv_has ls 4 [(0, .ref (E.2.1 c)), (1, .int a1), (2, .int a2)] := hl
  unfold f_X0_changeUses at hf
  have kw0 := hts (.fieldLink RX0 18 "MilkTwice$Cupboard" "use" "[I") (List.mem_of_getElem? (i := 1) rfl)
  have hinX0 : ∀ w ∈ u_ws RX0 TX0 12, w ∈ wsX0_changeUses := fun w h => List.mem_cons_of_mem _ (List.mem_append_right _ h)
  refine lv_aload_n hx hb dX0_changeUses_0 rfl (lv_at hl 0 rfl) ?_
  refine lv_iload_n hx hb dX0_changeUses_1 rfl (lv_at hl 1 rfl) ?_
  refine mt_b1I hf (fun r2 hg1 hf => ?_)
  refine mt_goi (mt_runV (i := c) (As := [.int a1]) (rest := []) ⟨hx, hb, hml, hown, hts⟩ hI hH (c_X0_has l E c hc a1 M u _ hg1) (cwV 1 hts gX0_changeUses_X0_has rfl rfl rfl (by decide +kernel) ⟨Nat.le_of_ble_eq_true rfl, Nat.le_of_ble_eq_true rfl⟩) (mt_T_cup hc) rfl rfl hl.1 rfl (Nat.le_of_ble_eq_true rfl) dX0_changeUses_2 ⟨Nat.zero_le _, Nat.zero_le _⟩) hS (fun H locs hH hS => ?_)
  refine lv_if_eq (tgt := 42) hx hb dX0_changeUses_5 (by decide) (fun c3 => ?_) (fun c3 => ?_)
  · have hf := mt_ifT c3 hf
    have i1 := mt_so1 hf
    subst i1
    exact mt_vret hx hb hr hI hH hS hlocks dX0_changeUses_42
  · have hf := mt_ifF c3 hf
    refine lv_aload_n hx hb dX0_changeUses_8 rfl (lv_at hl 0 rfl) ?_
    refine lv_iload_n hx hb dX0_changeUses_9 rfl (lv_at hl 2 rfl) ?_
    refine mt_b1I hf (fun r5 hg4 hf => ?_)
    refine mt_goi (mt_runV (i := c) (As := [.int a2]) (rest := []) ⟨hx, hb, hml, hown, hts⟩ hI hH (c_X0_has l E c hc a2 M u _ hg4) (cwV 1 hts gX0_changeUses_X0_has rfl rfl rfl (by decide +kernel) ⟨Nat.le_of_ble_eq_true rfl, Nat.le_of_ble_eq_true rfl⟩) (mt_T_cup hc) rfl rfl hl.1 rfl (Nat.le_of_ble_eq_true rfl) dX0_changeUses_10 ⟨Nat.zero_le _, Nat.zero_le _⟩) hS (fun H locs hH hS => ?_)
    refine lv_if_eq (tgt := 42) hx hb dX0_changeUses_13 (by decide) (fun c6 => ?_) (fun c6 => ?_)
    · have hf := mt_ifT c6 hf
      have i1 := mt_so1 hf
      subst i1
      exact mt_vret hx hb hr hI hH hS hlocks dX0_changeUses_42
    · have hf := mt_ifF c6 hf
      refine lv_aload_n hx hb dX0_changeUses_16 rfl (lv_at hl 0 rfl) ?_
      refine mt_getr (C := RX0) (T := TX0) (N := 12) hx hb hts hinX0 hown hI hH (mt_T_cup hc) rfl 3 (by decide) kw0 rfl rfl dX0_changeUses_17 ?_
      refine lv_iload_n hx hb dX0_changeUses_20 rfl (lv_at hl 1 rfl) ?_
      refine mt_ciI hf (fun q7 hf => ?_)
      refine mt_iald hx hb hI hH (mt_T_cupA hc 3 (by decide) (by decide)) q7 dX0_changeUses_21 ?_
      refine mt_lti hf (fun x8 ex8 hf => ?_)
      refine lv_istore_n (lv' := [(3, .int x8), (0, .ref (E.2.1 c)), (1, .int a1), (2, .int a2)]) hx hb dX0_changeUses_22 rfl hl (by decide) rfl (fun ls hl => ?_)
      refine lv_aload_n hx hb dX0_changeUses_23 rfl (lv_at hl 1 rfl) ?_
      refine mt_getr (C := RX0) (T := TX0) (N := 12) hx hb hts hinX0 hown hI hH (mt_T_cup hc) rfl 3 (by decide) kw0 rfl rfl dX0_changeUses_24 ?_
      refine lv_iload_n hx hb dX0_changeUses_27 rfl (lv_at hl 2 rfl) ?_
      refine lv_aload_n hx hb dX0_changeUses_28 rfl (lv_at hl 1 rfl) ?_
      refine mt_getr (C := RX0) (T := TX0) (N := 12) hx hb hts hinX0 hown hI hH (mt_T_cup hc) rfl 3 (by decide) kw0 rfl rfl dX0_changeUses_29 ?_
      refine lv_iload_n hx hb dX0_changeUses_32 rfl (lv_at hl 3 rfl) ?_
      refine mt_ciI hf (fun q9 hf => ?_)
      refine mt_iald hx hb hI hH (mt_T_cupA hc 3 (by decide) (by decide)) q9 dX0_changeUses_33 ?_
      refine mt_ciI hf (fun q11 hf => ?_)
      refine mt_iast hx hb hI hH hS (mt_T_cupA hc 3 (by decide) (by decide)) q11 dX0_changeUses_34 (fun H locs hH hS => ?_)
      refine mt_ltI hf (fun M10 eM10 hf => ?_)
      rw [← eM10] at hH
      refine lv_aload_n hx hb dX0_changeUses_35 rfl (lv_at hl 1 rfl) ?_
      refine mt_getr (C := RX0) (T := TX0) (N := 12) hx hb hts hinX0 hown hI hH (mt_T_cup hc) rfl 3 (by decide) kw0 rfl rfl dX0_changeUses_36 ?_
      refine lv_iload_n hx hb dX0_changeUses_39 rfl (lv_at hl 3 rfl) ?_
      refine lv_iload_n hx hb dX0_changeUses_40 rfl (lv_at hl 0 rfl) ?_
      refine mt_ciI hf (fun q13 hf => ?_)
      refine mt_iast hx hb hI hH hS (mt_T_cupA hc 3 (by decide) (by decide)) q13 dX0_changeUses_41 (fun H locs hH hS => ?_)
      refine mt_ltI hf (fun M12 eM12 hf => ?_)
      rw [← eM12] at hH
      have i1 := mt_so1 hf
      subst i1
      exact mt_vret hx hb hr hI hH hS hlocks dX0_changeUses_42

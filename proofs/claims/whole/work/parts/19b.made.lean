/-! THE CONSTRUCTORS: the walks -/
set_option maxHeartbeats 4000000 in
set_option maxRecDepth 100000 in
theorem c_X6_init (l : Launch) (E : mt_E) (v : Nat) : Met l yX6_init wsX6_init ({ frames := 1, cells := 0, slots := 0, locals := 12 } : Room) (va_Pc [.ref v] (pc_G E)) (va_Qv (fun _ : Unit => True) (fun _ _ => True) (fun _ => False)) 0 0 (fun _ => False) := by
  refine Met.ofW (cc := cX6_init) (maxL := 1) (ret := none) (by decide) rfl ?_
  intro p e s mid args below meth c0 s₁ B hml hv
  obtain ⟨rfl, hG⟩ := hv
  have hx := B.exec
  have hb := B.bytes
  have hr := B.returns
  have hts := atoms_spec (ws := wsX6_init) B.pre
  have hown : s.vm.findClass RX6 = some mid.cls := findClass_of_methodNamed B.named
  have hlocks := B.notSynchronized
  have hin : meth.name = "<init>" := (name_of_methodNamed B.named B.method).1
  have hS : va_S (fun _ => False) s.heap s.heap [] := va_S.rf
  have hl := lv_entry ([.ref v]) (n := 1) (Nat.le_of_ble_eq_true rfl)
  rw [lg_entry_eq]
  generalize (lg_sl ([.ref v]) ++ List.replicate (1 - (lg_sl ([.ref v])).length) Slot.unset).toArray = ls at hl ⊢
  have hl : lv_has ls 1 [(0, .ref v)] := hl
  refine lv_aload_n hx hb dX6_init_0 rfl (lv_at hl 0 rfl) ?_
  refine W.objInit hx hb hown (hts (.methodLink RX6 1 objectInit) (List.mem_of_getElem? (i := 1) rfl)) (hts (.instanceMethod objectInit) (List.mem_of_getElem? (i := 2) rfl)) (hts (.code objectInit ⟨#[0xb1]⟩ 1 none) (List.mem_of_getElem? (i := 3) rfl)) rfl (by rw [hml]; exact hl.1) rfl dX6_init_1 (Nat.le_of_ble_eq_true rfl) (Nat.le_of_ble_eq_true rfl) ?_
  refine W.eq (g2 := F0 mid 4 ls []) rfl ?_
  exact W.vret hx hb hr (fun t ht hW => ⟨⟨(), rfl, trivial, trivial⟩, hS.F ht⟩) hS.2.2 dX6_init_4
set_option maxHeartbeats 4000000 in
set_option maxRecDepth 100000 in
theorem c_X9_init (l : Launch) (E : mt_E) (v : Nat) : Met l yX9_init wsX9_init ({ frames := 2, cells := 0, slots := 0, locals := 32 } : Room) (va_Pc [.ref v] (pc_G E)) (va_Qv (fun _ : Unit => True) (fun _ _ => True) (fun _ => False)) 0 0 (fun _ => False) := by
  refine Met.ofW (cc := cX9_init) (maxL := 1) (ret := none) (by decide) rfl ?_
  intro p e s mid args below meth c0 s₁ B hml hv
  obtain ⟨rfl, hG⟩ := hv
  have hx := B.exec
  have hb := B.bytes
  have hr := B.returns
  have hts := atoms_spec (ws := wsX9_init) B.pre
  have hown : s.vm.findClass RX9 = some mid.cls := findClass_of_methodNamed B.named
  have hlocks := B.notSynchronized
  have hin : meth.name = "<init>" := (name_of_methodNamed B.named B.method).1
  have hS : va_S (fun _ => False) s.heap s.heap [] := va_S.rf
  have hl := lv_entry ([.ref v]) (n := 1) (Nat.le_of_ble_eq_true rfl)
  rw [lg_entry_eq]
  generalize (lg_sl ([.ref v]) ++ List.replicate (1 - (lg_sl ([.ref v])).length) Slot.unset).toArray = ls at hl ⊢
  have hl : lv_has ls 1 [(0, .ref v)] := hl
  refine lv_aload_n hx hb dX9_init_0 rfl (lv_at hl 0 rfl) ?_
  have hP : va_P E.1 vwCl [] s.heap := fun k q h => by simp at h
  refine pc_callk (E := E) (ws := []) (va_runIN (As := []) (rest := []) ⟨hx, hb, hml, hown, hts⟩ (c_X6_init l E v) ⟨va_cnB 0 hts gX9_init_X6_init_n1 rfl rfl rfl (hG.1.2.2.1 _ (List.mem_of_getElem? (i := 2) rfl)) (hts (.initialized RX6) (List.mem_of_getElem? (i := 2) rfl)) (by decide +kernel) ⟨Nat.le_of_ble_eq_true rfl, Nat.le_of_ble_eq_true rfl⟩, rfl, (hts (.instanceMethod yX6_init) (List.mem_of_getElem? (i := 1) rfl))⟩ ⟨fun a U g mk q => ⟨q.1, q.2.same (u := U) (U := U.calling g mk a) rfl⟩, fun U hU hW => ⟨rfl, hG.warm hW⟩⟩ rfl rfl hl.1 rfl (Nat.le_of_ble_eq_true rfl) dX9_init_1 ⟨Nat.zero_le _, Nat.zero_le _⟩) hP hS (fun H locs hP hS => ?_)
  exact W.vret hx hb hr (fun t ht hW => ⟨⟨(), rfl, trivial, trivial⟩, hS.F ht⟩) hS.2.2 dX9_init_4
set_option maxHeartbeats 4000000 in
set_option maxRecDepth 100000 in
theorem c_X5_init (l : Launch) (E : mt_E) (v : Nat) : Met l yX5_init wsX5_init ({ frames := 2, cells := 0, slots := 0, locals := 32 } : Room) (va_Pc [.ref v] (pc_G E)) (va_Qv (fun _ : Unit => True) (fun _ _ => True) (fun _ => False)) 0 0 (fun _ => False) := by
  refine Met.ofW (cc := cX5_init) (maxL := 1) (ret := none) (by decide) rfl ?_
  intro p e s mid args below meth c0 s₁ B hml hv
  obtain ⟨rfl, hG⟩ := hv
  have hx := B.exec
  have hb := B.bytes
  have hr := B.returns
  have hts := atoms_spec (ws := wsX5_init) B.pre
  have hown : s.vm.findClass RX5 = some mid.cls := findClass_of_methodNamed B.named
  have hlocks := B.notSynchronized
  have hin : meth.name = "<init>" := (name_of_methodNamed B.named B.method).1
  have hS : va_S (fun _ => False) s.heap s.heap [] := va_S.rf
  have hl := lv_entry ([.ref v]) (n := 1) (Nat.le_of_ble_eq_true rfl)
  rw [lg_entry_eq]
  generalize (lg_sl ([.ref v]) ++ List.replicate (1 - (lg_sl ([.ref v])).length) Slot.unset).toArray = ls at hl ⊢
  have hl : lv_has ls 1 [(0, .ref v)] := hl
  refine lv_aload_n hx hb dX5_init_0 rfl (lv_at hl 0 rfl) ?_
  have hP : va_P E.1 vwCl [] s.heap := fun k q h => by simp at h
  refine pc_callk (E := E) (ws := []) (va_runIN (As := []) (rest := []) ⟨hx, hb, hml, hown, hts⟩ (c_X6_init l E v) ⟨va_cnB 0 hts gX5_init_X6_init_n1 rfl rfl rfl (hG.1.2.2.1 _ (List.mem_of_getElem? (i := 4) rfl)) (hts (.initialized RX6) (List.mem_of_getElem? (i := 2) rfl)) (by decide +kernel) ⟨Nat.le_of_ble_eq_true rfl, Nat.le_of_ble_eq_true rfl⟩, rfl, (hts (.instanceMethod yX6_init) (List.mem_of_getElem? (i := 1) rfl))⟩ ⟨fun a U g mk q => ⟨q.1, q.2.same (u := U) (U := U.calling g mk a) rfl⟩, fun U hU hW => ⟨rfl, hG.warm hW⟩⟩ rfl rfl hl.1 rfl (Nat.le_of_ble_eq_true rfl) dX5_init_1 ⟨Nat.zero_le _, Nat.zero_le _⟩) hP hS (fun H locs hP hS => ?_)
  exact W.vret hx hb hr (fun t ht hW => ⟨⟨(), rfl, trivial, trivial⟩, hS.F ht⟩) hS.2.2 dX5_init_4
set_option maxHeartbeats 4000000 in
set_option maxRecDepth 100000 in
theorem c_X1_init (l : Launch) (E : mt_E) (v : Nat) : Met l yX1_init wsX1_init ({ frames := 3, cells := 0, slots := 0, locals := 52 } : Room) (va_Pc [.ref v] (pc_G E)) (va_Qv (fun _ : Unit => True) (fun _ _ => True) (fun _ => False)) 0 0 (fun _ => False) := by
  refine Met.ofW (cc := cX1_init) (maxL := 1) (ret := none) (by decide) rfl ?_
  intro p e s mid args below meth c0 s₁ B hml hv
  obtain ⟨rfl, hG⟩ := hv
  have hx := B.exec
  have hb := B.bytes
  have hr := B.returns
  have hts := atoms_spec (ws := wsX1_init) B.pre
  have hown : s.vm.findClass RX1 = some mid.cls := findClass_of_methodNamed B.named
  have hlocks := B.notSynchronized
  have hin : meth.name = "<init>" := (name_of_methodNamed B.named B.method).1
  have hS : va_S (fun _ => False) s.heap s.heap [] := va_S.rf
  have hl := lv_entry ([.ref v]) (n := 1) (Nat.le_of_ble_eq_true rfl)
  rw [lg_entry_eq]
  generalize (lg_sl ([.ref v]) ++ List.replicate (1 - (lg_sl ([.ref v])).length) Slot.unset).toArray = ls at hl ⊢
  have hl : lv_has ls 1 [(0, .ref v)] := hl
  refine lv_aload_n hx hb dX1_init_0 rfl (lv_at hl 0 rfl) ?_
  have hP : va_P E.1 vwCl [] s.heap := fun k q h => by simp at h
  refine pc_callk (E := E) (ws := []) (va_runIN (As := []) (rest := []) ⟨hx, hb, hml, hown, hts⟩ (c_X5_init l E v) ⟨va_cnB 0 hts gX1_init_X5_init_n1 rfl rfl rfl (hG.1.2.2.1 _ (List.mem_of_getElem? (i := 6) rfl)) (hts (.initialized RX5) (List.mem_of_getElem? (i := 2) rfl)) (by decide +kernel) ⟨Nat.le_of_ble_eq_true rfl, Nat.le_of_ble_eq_true rfl⟩, rfl, (hts (.instanceMethod yX5_init) (List.mem_of_getElem? (i := 1) rfl))⟩ ⟨fun a U g mk q => ⟨q.1, q.2.same (u := U) (U := U.calling g mk a) rfl⟩, fun U hU hW => ⟨rfl, hG.warm hW⟩⟩ rfl rfl hl.1 rfl (Nat.le_of_ble_eq_true rfl) dX1_init_1 ⟨Nat.zero_le _, Nat.zero_le _⟩) hP hS (fun H locs hP hS => ?_)
  exact W.vret hx hb hr (fun t ht hW => ⟨⟨(), rfl, trivial, trivial⟩, hS.F ht⟩) hS.2.2 dX1_init_4
set_option maxHeartbeats 4000000 in
set_option maxRecDepth 100000 in
theorem c_X2_init (l : Launch) (E : mt_E) (v : Nat) : Met l yX2_init wsX2_init ({ frames := 3, cells := 0, slots := 0, locals := 52 } : Room) (va_Pc [.ref v] (pc_G E)) (va_Qv (fun _ : Unit => True) (fun _ _ => True) (fun _ => False)) 0 0 (fun _ => False) := by
  refine Met.ofW (cc := cX2_init) (maxL := 1) (ret := none) (by decide) rfl ?_
  intro p e s mid args below meth c0 s₁ B hml hv
  obtain ⟨rfl, hG⟩ := hv
  have hx := B.exec
  have hb := B.bytes
  have hr := B.returns
  have hts := atoms_spec (ws := wsX2_init) B.pre
  have hown : s.vm.findClass RX2 = some mid.cls := findClass_of_methodNamed B.named
  have hlocks := B.notSynchronized
  have hin : meth.name = "<init>" := (name_of_methodNamed B.named B.method).1
  have hS : va_S (fun _ => False) s.heap s.heap [] := va_S.rf
  have hl := lv_entry ([.ref v]) (n := 1) (Nat.le_of_ble_eq_true rfl)
  rw [lg_entry_eq]
  generalize (lg_sl ([.ref v]) ++ List.replicate (1 - (lg_sl ([.ref v])).length) Slot.unset).toArray = ls at hl ⊢
  have hl : lv_has ls 1 [(0, .ref v)] := hl
  refine lv_aload_n hx hb dX2_init_0 rfl (lv_at hl 0 rfl) ?_
  have hP : va_P E.1 vwCl [] s.heap := fun k q h => by simp at h
  refine pc_callk (E := E) (ws := []) (va_runIN (As := []) (rest := []) ⟨hx, hb, hml, hown, hts⟩ (c_X9_init l E v) ⟨va_cnB 0 hts gX2_init_X9_init_n1 rfl rfl rfl (hG.1.2.2.1 _ (List.mem_of_getElem? (i := 8) rfl)) (hts (.initialized RX9) (List.mem_of_getElem? (i := 2) rfl)) (by decide +kernel) ⟨Nat.le_of_ble_eq_true rfl, Nat.le_of_ble_eq_true rfl⟩, rfl, (hts (.instanceMethod yX9_init) (List.mem_of_getElem? (i := 1) rfl))⟩ ⟨fun a U g mk q => ⟨q.1, q.2.same (u := U) (U := U.calling g mk a) rfl⟩, fun U hU hW => ⟨rfl, hG.warm hW⟩⟩ rfl rfl hl.1 rfl (Nat.le_of_ble_eq_true rfl) dX2_init_1 ⟨Nat.zero_le _, Nat.zero_le _⟩) hP hS (fun H locs hP hS => ?_)
  exact W.vret hx hb hr (fun t ht hW => ⟨⟨(), rfl, trivial, trivial⟩, hS.F ht⟩) hS.2.2 dX2_init_4
set_option maxHeartbeats 4000000 in
set_option maxRecDepth 100000 in
theorem c_X10_init (l : Launch) (E : mt_E) (v : Nat) : Met l yX10_init wsX10_init ({ frames := 3, cells := 0, slots := 0, locals := 52 } : Room) (va_Pc [.ref v] (pc_G E)) (va_Qv (fun _ : Unit => True) (fun _ _ => True) (fun _ => False)) 0 0 (fun _ => False) := by
  refine Met.ofW (cc := cX10_init) (maxL := 1) (ret := none) (by decide) rfl ?_
  intro p e s mid args below meth c0 s₁ B hml hv
  obtain ⟨rfl, hG⟩ := hv
  have hx := B.exec
  have hb := B.bytes
  have hr := B.returns
  have hts := atoms_spec (ws := wsX10_init) B.pre
  have hown : s.vm.findClass RX10 = some mid.cls := findClass_of_methodNamed B.named
  have hlocks := B.notSynchronized
  have hin : meth.name = "<init>" := (name_of_methodNamed B.named B.method).1
  have hS : va_S (fun _ => False) s.heap s.heap [] := va_S.rf
  have hl := lv_entry ([.ref v]) (n := 1) (Nat.le_of_ble_eq_true rfl)
  rw [lg_entry_eq]
  generalize (lg_sl ([.ref v]) ++ List.replicate (1 - (lg_sl ([.ref v])).length) Slot.unset).toArray = ls at hl ⊢
  have hl : lv_has ls 1 [(0, .ref v)] := hl
  refine lv_aload_n hx hb dX10_init_0 rfl (lv_at hl 0 rfl) ?_
  have hP : va_P E.1 vwCl [] s.heap := fun k q h => by simp at h
  refine pc_callk (E := E) (ws := []) (va_runIN (As := []) (rest := []) ⟨hx, hb, hml, hown, hts⟩ (c_X5_init l E v) ⟨va_cnB 0 hts gX10_init_X5_init_n1 rfl rfl rfl (hG.1.2.2.1 _ (List.mem_of_getElem? (i := 10) rfl)) (hts (.initialized RX5) (List.mem_of_getElem? (i := 2) rfl)) (by decide +kernel) ⟨Nat.le_of_ble_eq_true rfl, Nat.le_of_ble_eq_true rfl⟩, rfl, (hts (.instanceMethod yX5_init) (List.mem_of_getElem? (i := 1) rfl))⟩ ⟨fun a U g mk q => ⟨q.1, q.2.same (u := U) (U := U.calling g mk a) rfl⟩, fun U hU hW => ⟨rfl, hG.warm hW⟩⟩ rfl rfl hl.1 rfl (Nat.le_of_ble_eq_true rfl) dX10_init_1 ⟨Nat.zero_le _, Nat.zero_le _⟩) hP hS (fun H locs hP hS => ?_)
  exact W.vret hx hb hr (fun t ht hW => ⟨⟨(), rfl, trivial, trivial⟩, hS.F ht⟩) hS.2.2 dX10_init_4
set_option maxHeartbeats 4000000 in
set_option maxRecDepth 100000 in
theorem c_X0_init (l : Launch) (E : mt_E) (v K sz : Nat) : Met l yX0_init wsX0_init ({ frames := 1, cells := 7, slots := 49, locals := 12 } : Room) (pc_P E [.ref v, .ref K] [(v, .inr (0, [.null, .null, .null, .null, .null, .null, .null, .null, .int 0, .int 0, .int 0, .int 0]))] sz) (pc_Q E [(v, .inr (0, [.null, .null, .null, .null, .null, .null, .null, .null, .int 0, .int 0, .int 0, .int 0]))] sz (fun a => pc_cup E.2.2.1.1 K v a)) 7 49 (va_A [(v, .inr (0, [.null, .null, .null, .null, .null, .null, .null, .null, .int 0, .int 0, .int 0, .int 0]))] sz) := by
  refine Met.ofW (cc := cX0_init) (maxL := 2) (ret := none) (by decide) rfl ?_
  intro p e s mid args below meth c0 s₁ B hml hv
  obtain ⟨rfl, hsz, hG, hP, hD0⟩ := hv
  have hx := B.exec
  have hb := B.bytes
  have hr := B.returns
  have hts := atoms_spec (ws := wsX0_init) B.pre
  have hown : s.vm.findClass RX0 = some mid.cls := findClass_of_methodNamed B.named
  have hlocks := B.notSynchronized
  have hin : meth.name = "<init>" := (name_of_methodNamed B.named B.method).1
  subst hsz
  have hD := hD0.self (sz := s.heap.size)
  generalize hAe : va_A [(v, .inr (0, [.null, .null, .null, .null, .null, .null, .null, .null, .int 0, .int 0, .int 0, .int 0]))] s.heap.size = A at hD ⊢
  have hA : ∀ q : Nat, s.heap.size ≤ q → A q := fun q h => by rw [← hAe]; exact Or.inr h
  have hS : va_S A s.heap s.heap [] := va_S.rf
  have hinX0 : ∀ w ∈ u_ws RX0 TX0 12, w ∈ wsX0_init := fun w h => List.mem_cons_of_mem _ (List.mem_append_right _ h)
  have hl := lv_entry ([.ref v, .ref K]) (n := 2) (Nat.le_of_ble_eq_true rfl)
  rw [lg_entry_eq]
  generalize (lg_sl ([.ref v, .ref K]) ++ List.replicate (2 - (lg_sl ([.ref v, .ref K])).length) Slot.unset).toArray = ls at hl ⊢
  have hl : lv_has ls 2 [(0, .ref v), (1, .ref K)] := hl
  refine lv_aload_n hx hb dX0_init_0 rfl (lv_at hl 0 rfl) ?_
  refine W.objInit hx hb hown (hts (.methodLink RX0 3 objectInit) (List.mem_of_getElem? (i := 1) rfl)) (hts (.instanceMethod objectInit) (List.mem_of_getElem? (i := 2) rfl)) (hts (.code objectInit ⟨#[0xb1]⟩ 1 none) (List.mem_of_getElem? (i := 3) rfl)) rfl (by rw [hml]; exact hl.1) rfl dX0_init_1 (Nat.le_of_ble_eq_true rfl) (Nat.le_of_ble_eq_true rfl) ?_
  refine W.eq (g2 := F0 mid 4 ls []) rfl ?_
  refine lv_aload_n hx hb dX0_init_4 rfl (lv_at hl 0 rfl) ?_
  refine lv_bipush (v := 7) hx hb dX0_init_5 (by decide) ?_
  refine pc_newa hx hb (hts (.arrayClass .int) (List.mem_of_getElem? (i := 4) rfl)) hG.1 hP hD hS hA 7 (by decide) rfl (Nat.le_of_ble_eq_true rfl) (Nat.le_of_ble_eq_true rfl) (Nat.le_of_ble_eq_true rfl) dX0_init_7 (fun q1 H hP hD hS => ?_)
  have hP : va_P E.1 vwCl ([(v, .inr (0, [.null, .null, .null, .null, .null, .null, .null, .null, .int 0, .int 0, .int 0, .int 0])), (q1, pc_ar E.2.2.1.1 7)]) H := hP
  have hD : va_D A ([(v, .inr (0, [.null, .null, .null, .null, .null, .null, .null, .null, .int 0, .int 0, .int 0, .int 0])), (q1, pc_ar E.2.2.1.1 7)]) := hD
  refine W.widen (k := 1) (n := 7) (Nat.le_of_ble_eq_true rfl) (Nat.le_of_ble_eq_true rfl) ?_
  refine va_putF (C := RX0) (T := TX0) (N := 12) (ty := tyX0 1) (v := .ref q1) hx hb hts hinX0 tyX0 tyX0_ok nmX0 hown hG.1.1 hP hD hS 0 rfl rfl 1 (by decide) (hts (.fieldLink RX0 9 "MilkTwice$Cupboard" "kind" "[I") (List.mem_of_getElem? (i := 5) rfl)) (fun x h => h) rfl hin rfl (tyX0_ok 1 (by decide)) rfl rfl (Nat.le_of_ble_eq_true rfl) dX0_init_9 (fun H locs hP hD hS => ?_)
  have hP : va_P E.1 vwCl ([(v, .inr (0, [.null, .ref q1, .null, .null, .null, .null, .null, .null, .int 0, .int 0, .int 0, .int 0])), (q1, pc_ar E.2.2.1.1 7)]) H := hP
  have hD : va_D A ([(v, .inr (0, [.null, .ref q1, .null, .null, .null, .null, .null, .null, .int 0, .int 0, .int 0, .int 0])), (q1, pc_ar E.2.2.1.1 7)]) := hD
  refine lv_aload_n hx hb dX0_init_12 rfl (lv_at hl 0 rfl) ?_
  refine lv_bipush (v := 7) hx hb dX0_init_13 (by decide) ?_
  refine pc_newa hx hb (hts (.arrayClass .int) (List.mem_of_getElem? (i := 4) rfl)) hG.1 hP hD hS hA 7 (by decide) rfl (Nat.le_of_ble_eq_true rfl) (Nat.le_of_ble_eq_true rfl) (Nat.le_of_ble_eq_true rfl) dX0_init_15 (fun q2 H hP hD hS => ?_)
  have hP : va_P E.1 vwCl ([(v, .inr (0, [.null, .ref q1, .null, .null, .null, .null, .null, .null, .int 0, .int 0, .int 0, .int 0])), (q1, pc_ar E.2.2.1.1 7), (q2, pc_ar E.2.2.1.1 7)]) H := hP
  have hD : va_D A ([(v, .inr (0, [.null, .ref q1, .null, .null, .null, .null, .null, .null, .int 0, .int 0, .int 0, .int 0])), (q1, pc_ar E.2.2.1.1 7), (q2, pc_ar E.2.2.1.1 7)]) := hD
  refine W.widen (k := 2) (n := 14) (Nat.le_of_ble_eq_true rfl) (Nat.le_of_ble_eq_true rfl) ?_
  refine va_putF (C := RX0) (T := TX0) (N := 12) (ty := tyX0 2) (v := .ref q2) hx hb hts hinX0 tyX0 tyX0_ok nmX0 hown hG.1.1 hP hD hS 0 rfl rfl 2 (by decide) (hts (.fieldLink RX0 15 "MilkTwice$Cupboard" "figure" "[I") (List.mem_of_getElem? (i := 6) rfl)) (fun x h => h) rfl hin rfl (tyX0_ok 2 (by decide)) rfl rfl (Nat.le_of_ble_eq_true rfl) dX0_init_17 (fun H locs hP hD hS => ?_)
  have hP : va_P E.1 vwCl ([(v, .inr (0, [.null, .ref q1, .ref q2, .null, .null, .null, .null, .null, .int 0, .int 0, .int 0, .int 0])), (q1, pc_ar E.2.2.1.1 7), (q2, pc_ar E.2.2.1.1 7)]) H := hP
  have hD : va_D A ([(v, .inr (0, [.null, .ref q1, .ref q2, .null, .null, .null, .null, .null, .int 0, .int 0, .int 0, .int 0])), (q1, pc_ar E.2.2.1.1 7), (q2, pc_ar E.2.2.1.1 7)]) := hD
  refine lv_aload_n hx hb dX0_init_20 rfl (lv_at hl 0 rfl) ?_
  refine lv_bipush (v := 7) hx hb dX0_init_21 (by decide) ?_
  refine pc_newa hx hb (hts (.arrayClass .int) (List.mem_of_getElem? (i := 4) rfl)) hG.1 hP hD hS hA 7 (by decide) rfl (Nat.le_of_ble_eq_true rfl) (Nat.le_of_ble_eq_true rfl) (Nat.le_of_ble_eq_true rfl) dX0_init_23 (fun q3 H hP hD hS => ?_)
  have hP : va_P E.1 vwCl ([(v, .inr (0, [.null, .ref q1, .ref q2, .null, .null, .null, .null, .null, .int 0, .int 0, .int 0, .int 0])), (q1, pc_ar E.2.2.1.1 7), (q2, pc_ar E.2.2.1.1 7), (q3, pc_ar E.2.2.1.1 7)]) H := hP
  have hD : va_D A ([(v, .inr (0, [.null, .ref q1, .ref q2, .null, .null, .null, .null, .null, .int 0, .int 0, .int 0, .int 0])), (q1, pc_ar E.2.2.1.1 7), (q2, pc_ar E.2.2.1.1 7), (q3, pc_ar E.2.2.1.1 7)]) := hD
  refine W.widen (k := 3) (n := 21) (Nat.le_of_ble_eq_true rfl) (Nat.le_of_ble_eq_true rfl) ?_
  refine va_putF (C := RX0) (T := TX0) (N := 12) (ty := tyX0 3) (v := .ref q3) hx hb hts hinX0 tyX0 tyX0_ok nmX0 hown hG.1.1 hP hD hS 0 rfl rfl 3 (by decide) (hts (.fieldLink RX0 18 "MilkTwice$Cupboard" "use" "[I") (List.mem_of_getElem? (i := 7) rfl)) (fun x h => h) rfl hin rfl (tyX0_ok 3 (by decide)) rfl rfl (Nat.le_of_ble_eq_true rfl) dX0_init_25 (fun H locs hP hD hS => ?_)
  have hP : va_P E.1 vwCl ([(v, .inr (0, [.null, .ref q1, .ref q2, .ref q3, .null, .null, .null, .null, .int 0, .int 0, .int 0, .int 0])), (q1, pc_ar E.2.2.1.1 7), (q2, pc_ar E.2.2.1.1 7), (q3, pc_ar E.2.2.1.1 7)]) H := hP
  have hD : va_D A ([(v, .inr (0, [.null, .ref q1, .ref q2, .ref q3, .null, .null, .null, .null, .int 0, .int 0, .int 0, .int 0])), (q1, pc_ar E.2.2.1.1 7), (q2, pc_ar E.2.2.1.1 7), (q3, pc_ar E.2.2.1.1 7)]) := hD
  refine lv_aload_n hx hb dX0_init_28 rfl (lv_at hl 0 rfl) ?_
  refine lv_bipush (v := 7) hx hb dX0_init_29 (by decide) ?_
  refine pc_newa hx hb (hts (.arrayClass .int) (List.mem_of_getElem? (i := 4) rfl)) hG.1 hP hD hS hA 7 (by decide) rfl (Nat.le_of_ble_eq_true rfl) (Nat.le_of_ble_eq_true rfl) (Nat.le_of_ble_eq_true rfl) dX0_init_31 (fun q4 H hP hD hS => ?_)
  have hP : va_P E.1 vwCl ([(v, .inr (0, [.null, .ref q1, .ref q2, .ref q3, .null, .null, .null, .null, .int 0, .int 0, .int 0, .int 0])), (q1, pc_ar E.2.2.1.1 7), (q2, pc_ar E.2.2.1.1 7), (q3, pc_ar E.2.2.1.1 7), (q4, pc_ar E.2.2.1.1 7)]) H := hP
  have hD : va_D A ([(v, .inr (0, [.null, .ref q1, .ref q2, .ref q3, .null, .null, .null, .null, .int 0, .int 0, .int 0, .int 0])), (q1, pc_ar E.2.2.1.1 7), (q2, pc_ar E.2.2.1.1 7), (q3, pc_ar E.2.2.1.1 7), (q4, pc_ar E.2.2.1.1 7)]) := hD
  refine W.widen (k := 4) (n := 28) (Nat.le_of_ble_eq_true rfl) (Nat.le_of_ble_eq_true rfl) ?_
  refine va_putF (C := RX0) (T := TX0) (N := 12) (ty := tyX0 4) (v := .ref q4) hx hb hts hinX0 tyX0 tyX0_ok nmX0 hown hG.1.1 hP hD hS 0 rfl rfl 4 (by decide) (hts (.fieldLink RX0 21 "MilkTwice$Cupboard" "price" "[I") (List.mem_of_getElem? (i := 8) rfl)) (fun x h => h) rfl hin rfl (tyX0_ok 4 (by decide)) rfl rfl (Nat.le_of_ble_eq_true rfl) dX0_init_33 (fun H locs hP hD hS => ?_)
  have hP : va_P E.1 vwCl ([(v, .inr (0, [.null, .ref q1, .ref q2, .ref q3, .ref q4, .null, .null, .null, .int 0, .int 0, .int 0, .int 0])), (q1, pc_ar E.2.2.1.1 7), (q2, pc_ar E.2.2.1.1 7), (q3, pc_ar E.2.2.1.1 7), (q4, pc_ar E.2.2.1.1 7)]) H := hP
  have hD : va_D A ([(v, .inr (0, [.null, .ref q1, .ref q2, .ref q3, .ref q4, .null, .null, .null, .int 0, .int 0, .int 0, .int 0])), (q1, pc_ar E.2.2.1.1 7), (q2, pc_ar E.2.2.1.1 7), (q3, pc_ar E.2.2.1.1 7), (q4, pc_ar E.2.2.1.1 7)]) := hD
  refine lv_aload_n hx hb dX0_init_36 rfl (lv_at hl 0 rfl) ?_
  refine lv_bipush (v := 7) hx hb dX0_init_37 (by decide) ?_
  refine pc_newa hx hb (hts (.arrayClass .int) (List.mem_of_getElem? (i := 4) rfl)) hG.1 hP hD hS hA 7 (by decide) rfl (Nat.le_of_ble_eq_true rfl) (Nat.le_of_ble_eq_true rfl) (Nat.le_of_ble_eq_true rfl) dX0_init_39 (fun q5 H hP hD hS => ?_)
  have hP : va_P E.1 vwCl ([(v, .inr (0, [.null, .ref q1, .ref q2, .ref q3, .ref q4, .null, .null, .null, .int 0, .int 0, .int 0, .int 0])), (q1, pc_ar E.2.2.1.1 7), (q2, pc_ar E.2.2.1.1 7), (q3, pc_ar E.2.2.1.1 7), (q4, pc_ar E.2.2.1.1 7), (q5, pc_ar E.2.2.1.1 7)]) H := hP
  have hD : va_D A ([(v, .inr (0, [.null, .ref q1, .ref q2, .ref q3, .ref q4, .null, .null, .null, .int 0, .int 0, .int 0, .int 0])), (q1, pc_ar E.2.2.1.1 7), (q2, pc_ar E.2.2.1.1 7), (q3, pc_ar E.2.2.1.1 7), (q4, pc_ar E.2.2.1.1 7), (q5, pc_ar E.2.2.1.1 7)]) := hD
  refine W.widen (k := 5) (n := 35) (Nat.le_of_ble_eq_true rfl) (Nat.le_of_ble_eq_true rfl) ?_
  refine va_putF (C := RX0) (T := TX0) (N := 12) (ty := tyX0 5) (v := .ref q5) hx hb hts hinX0 tyX0 tyX0_ok nmX0 hown hG.1.1 hP hD hS 0 rfl rfl 5 (by decide) (hts (.fieldLink RX0 24 "MilkTwice$Cupboard" "pack" "[I") (List.mem_of_getElem? (i := 9) rfl)) (fun x h => h) rfl hin rfl (tyX0_ok 5 (by decide)) rfl rfl (Nat.le_of_ble_eq_true rfl) dX0_init_41 (fun H locs hP hD hS => ?_)
  have hP : va_P E.1 vwCl ([(v, .inr (0, [.null, .ref q1, .ref q2, .ref q3, .ref q4, .ref q5, .null, .null, .int 0, .int 0, .int 0, .int 0])), (q1, pc_ar E.2.2.1.1 7), (q2, pc_ar E.2.2.1.1 7), (q3, pc_ar E.2.2.1.1 7), (q4, pc_ar E.2.2.1.1 7), (q5, pc_ar E.2.2.1.1 7)]) H := hP
  have hD : va_D A ([(v, .inr (0, [.null, .ref q1, .ref q2, .ref q3, .ref q4, .ref q5, .null, .null, .int 0, .int 0, .int 0, .int 0])), (q1, pc_ar E.2.2.1.1 7), (q2, pc_ar E.2.2.1.1 7), (q3, pc_ar E.2.2.1.1 7), (q4, pc_ar E.2.2.1.1 7), (q5, pc_ar E.2.2.1.1 7)]) := hD
  refine lv_aload_n hx hb dX0_init_44 rfl (lv_at hl 0 rfl) ?_
  refine lv_bipush (v := 7) hx hb dX0_init_45 (by decide) ?_
  refine pc_newa hx hb (hts (.arrayClass .int) (List.mem_of_getElem? (i := 4) rfl)) hG.1 hP hD hS hA 7 (by decide) rfl (Nat.le_of_ble_eq_true rfl) (Nat.le_of_ble_eq_true rfl) (Nat.le_of_ble_eq_true rfl) dX0_init_47 (fun q6 H hP hD hS => ?_)
  have hP : va_P E.1 vwCl ([(v, .inr (0, [.null, .ref q1, .ref q2, .ref q3, .ref q4, .ref q5, .null, .null, .int 0, .int 0, .int 0, .int 0])), (q1, pc_ar E.2.2.1.1 7), (q2, pc_ar E.2.2.1.1 7), (q3, pc_ar E.2.2.1.1 7), (q4, pc_ar E.2.2.1.1 7), (q5, pc_ar E.2.2.1.1 7), (q6, pc_ar E.2.2.1.1 7)]) H := hP
  have hD : va_D A ([(v, .inr (0, [.null, .ref q1, .ref q2, .ref q3, .ref q4, .ref q5, .null, .null, .int 0, .int 0, .int 0, .int 0])), (q1, pc_ar E.2.2.1.1 7), (q2, pc_ar E.2.2.1.1 7), (q3, pc_ar E.2.2.1.1 7), (q4, pc_ar E.2.2.1.1 7), (q5, pc_ar E.2.2.1.1 7), (q6, pc_ar E.2.2.1.1 7)]) := hD
  refine W.widen (k := 6) (n := 42) (Nat.le_of_ble_eq_true rfl) (Nat.le_of_ble_eq_true rfl) ?_
  refine va_putF (C := RX0) (T := TX0) (N := 12) (ty := tyX0 6) (v := .ref q6) hx hb hts hinX0 tyX0 tyX0_ok nmX0 hown hG.1.1 hP hD hS 0 rfl rfl 6 (by decide) (hts (.fieldLink RX0 27 "MilkTwice$Cupboard" "stock" "[I") (List.mem_of_getElem? (i := 10) rfl)) (fun x h => h) rfl hin rfl (tyX0_ok 6 (by decide)) rfl rfl (Nat.le_of_ble_eq_true rfl) dX0_init_49 (fun H locs hP hD hS => ?_)
  have hP : va_P E.1 vwCl ([(v, .inr (0, [.null, .ref q1, .ref q2, .ref q3, .ref q4, .ref q5, .ref q6, .null, .int 0, .int 0, .int 0, .int 0])), (q1, pc_ar E.2.2.1.1 7), (q2, pc_ar E.2.2.1.1 7), (q3, pc_ar E.2.2.1.1 7), (q4, pc_ar E.2.2.1.1 7), (q5, pc_ar E.2.2.1.1 7), (q6, pc_ar E.2.2.1.1 7)]) H := hP
  have hD : va_D A ([(v, .inr (0, [.null, .ref q1, .ref q2, .ref q3, .ref q4, .ref q5, .ref q6, .null, .int 0, .int 0, .int 0, .int 0])), (q1, pc_ar E.2.2.1.1 7), (q2, pc_ar E.2.2.1.1 7), (q3, pc_ar E.2.2.1.1 7), (q4, pc_ar E.2.2.1.1 7), (q5, pc_ar E.2.2.1.1 7), (q6, pc_ar E.2.2.1.1 7)]) := hD
  refine lv_aload_n hx hb dX0_init_52 rfl (lv_at hl 0 rfl) ?_
  refine lv_bipush (v := 7) hx hb dX0_init_53 (by decide) ?_
  refine pc_newa hx hb (hts (.arrayClass .int) (List.mem_of_getElem? (i := 4) rfl)) hG.1 hP hD hS hA 7 (by decide) rfl (Nat.le_of_ble_eq_true rfl) (Nat.le_of_ble_eq_true rfl) (Nat.le_of_ble_eq_true rfl) dX0_init_55 (fun q7 H hP hD hS => ?_)
  have hP : va_P E.1 vwCl ([(v, .inr (0, [.null, .ref q1, .ref q2, .ref q3, .ref q4, .ref q5, .ref q6, .null, .int 0, .int 0, .int 0, .int 0])), (q1, pc_ar E.2.2.1.1 7), (q2, pc_ar E.2.2.1.1 7), (q3, pc_ar E.2.2.1.1 7), (q4, pc_ar E.2.2.1.1 7), (q5, pc_ar E.2.2.1.1 7), (q6, pc_ar E.2.2.1.1 7), (q7, pc_ar E.2.2.1.1 7)]) H := hP
  have hD : va_D A ([(v, .inr (0, [.null, .ref q1, .ref q2, .ref q3, .ref q4, .ref q5, .ref q6, .null, .int 0, .int 0, .int 0, .int 0])), (q1, pc_ar E.2.2.1.1 7), (q2, pc_ar E.2.2.1.1 7), (q3, pc_ar E.2.2.1.1 7), (q4, pc_ar E.2.2.1.1 7), (q5, pc_ar E.2.2.1.1 7), (q6, pc_ar E.2.2.1.1 7), (q7, pc_ar E.2.2.1.1 7)]) := hD
  refine W.widen (k := 7) (n := 49) (Nat.le_of_ble_eq_true rfl) (Nat.le_of_ble_eq_true rfl) ?_
  refine va_putF (C := RX0) (T := TX0) (N := 12) (ty := tyX0 7) (v := .ref q7) hx hb hts hinX0 tyX0 tyX0_ok nmX0 hown hG.1.1 hP hD hS 0 rfl rfl 7 (by decide) (hts (.fieldLink RX0 30 "MilkTwice$Cupboard" "group" "[I") (List.mem_of_getElem? (i := 11) rfl)) (fun x h => h) rfl hin rfl (tyX0_ok 7 (by decide)) rfl rfl (Nat.le_of_ble_eq_true rfl) dX0_init_57 (fun H locs hP hD hS => ?_)
  have hP : va_P E.1 vwCl ([(v, .inr (0, [.null, .ref q1, .ref q2, .ref q3, .ref q4, .ref q5, .ref q6, .ref q7, .int 0, .int 0, .int 0, .int 0])), (q1, pc_ar E.2.2.1.1 7), (q2, pc_ar E.2.2.1.1 7), (q3, pc_ar E.2.2.1.1 7), (q4, pc_ar E.2.2.1.1 7), (q5, pc_ar E.2.2.1.1 7), (q6, pc_ar E.2.2.1.1 7), (q7, pc_ar E.2.2.1.1 7)]) H := hP
  have hD : va_D A ([(v, .inr (0, [.null, .ref q1, .ref q2, .ref q3, .ref q4, .ref q5, .ref q6, .ref q7, .int 0, .int 0, .int 0, .int 0])), (q1, pc_ar E.2.2.1.1 7), (q2, pc_ar E.2.2.1.1 7), (q3, pc_ar E.2.2.1.1 7), (q4, pc_ar E.2.2.1.1 7), (q5, pc_ar E.2.2.1.1 7), (q6, pc_ar E.2.2.1.1 7), (q7, pc_ar E.2.2.1.1 7)]) := hD
  refine lv_aload_n hx hb dX0_init_60 rfl (lv_at hl 0 rfl) ?_
  refine lv_aload_n hx hb dX0_init_61 rfl (lv_at hl 1 rfl) ?_
  refine va_putF (C := RX0) (T := TX0) (N := 12) (ty := tyX0 0) (v := .ref K) hx hb hts hinX0 tyX0 tyX0_ok nmX0 hown hG.1.1 hP hD hS 0 rfl rfl 0 (by decide) (hts (.fieldLink RX0 33 "MilkTwice$Cupboard" "kinds" "[LMilkTwice$Kind;") (List.mem_of_getElem? (i := 12) rfl)) (fun x h => h) rfl hin rfl (tyX0_ok 0 (by decide)) rfl rfl (Nat.le_of_ble_eq_true rfl) dX0_init_62 (fun H locs hP hD hS => ?_)
  have hP : va_P E.1 vwCl ([(v, .inr (0, [.ref K, .ref q1, .ref q2, .ref q3, .ref q4, .ref q5, .ref q6, .ref q7, .int 0, .int 0, .int 0, .int 0])), (q1, pc_ar E.2.2.1.1 7), (q2, pc_ar E.2.2.1.1 7), (q3, pc_ar E.2.2.1.1 7), (q4, pc_ar E.2.2.1.1 7), (q5, pc_ar E.2.2.1.1 7), (q6, pc_ar E.2.2.1.1 7), (q7, pc_ar E.2.2.1.1 7)]) H := hP
  have hD : va_D A ([(v, .inr (0, [.ref K, .ref q1, .ref q2, .ref q3, .ref q4, .ref q5, .ref q6, .ref q7, .int 0, .int 0, .int 0, .int 0])), (q1, pc_ar E.2.2.1.1 7), (q2, pc_ar E.2.2.1.1 7), (q3, pc_ar E.2.2.1.1 7), (q4, pc_ar E.2.2.1.1 7), (q5, pc_ar E.2.2.1.1 7), (q6, pc_ar E.2.2.1.1 7), (q7, pc_ar E.2.2.1.1 7)]) := hD
  refine W.widen (k := 7) (n := 49) (Nat.le_of_ble_eq_true rfl) (Nat.le_of_ble_eq_true rfl) ?_
  subst hAe
  have hP9 : va_P E.1 vwCl (pc_cup E.2.2.1.1 K v (pc_c q1 (pc_c q2 (pc_c q3 (pc_c q4 (pc_c q5 (pc_c q6 (pc_c q7 (fun _ => 0))))))))) H := hP
  have hD9 := hD
  exact W.vret hx hb hr (fun t ht hW => ⟨⟨(pc_c q1 (pc_c q2 (pc_c q3 (pc_c q4 (pc_c q5 (pc_c q6 (pc_c q7 (fun _ => 0)))))))), rfl, trivial, by rw [ht]; exact hP9, hD9⟩, hS.F ht⟩) hS.2.2 dX0_init_65
set_option maxHeartbeats 4000000 in
set_option maxRecDepth 100000 in
theorem c_X4_init (l : Launch) (E : mt_E) (v K sz : Nat) : Met l yX4_init wsX4_init ({ frames := 2, cells := 10, slots := 77, locals := 33 } : Room) (pc_P E [.ref v, .ref K] [(v, .inr (4, [.null, .null, .null, .int 0, .int 0, .int 0]))] sz) (pc_Q E [(v, .inr (4, [.null, .null, .null, .int 0, .int 0, .int 0]))] sz (fun a => pc_hou E.2.2.1.1 K v a)) 10 77 (va_A [(v, .inr (4, [.null, .null, .null, .int 0, .int 0, .int 0]))] sz) := by
  refine Met.ofW (cc := cX4_init) (maxL := 2) (ret := none) (by decide) rfl ?_
  intro p e s mid args below meth c0 s₁ B hml hv
  obtain ⟨rfl, hsz, hG, hP, hD0⟩ := hv
  have hx := B.exec
  have hb := B.bytes
  have hr := B.returns
  have hts := atoms_spec (ws := wsX4_init) B.pre
  have hown : s.vm.findClass RX4 = some mid.cls := findClass_of_methodNamed B.named
  have hlocks := B.notSynchronized
  have hin : meth.name = "<init>" := (name_of_methodNamed B.named B.method).1
  subst hsz
  have hD := hD0.self (sz := s.heap.size)
  generalize hAe : va_A [(v, .inr (4, [.null, .null, .null, .int 0, .int 0, .int 0]))] s.heap.size = A at hD ⊢
  have hA : ∀ q : Nat, s.heap.size ≤ q → A q := fun q h => by rw [← hAe]; exact Or.inr h
  have hS : va_S A s.heap s.heap [] := va_S.rf
  have hinX4 : ∀ w ∈ u_ws RX4 TX4 6, w ∈ wsX4_init := fun w h => List.mem_cons_of_mem _ (List.mem_append_left _ (List.mem_append_right _ h))
  have hinX0 : ∀ w ∈ u_ws RX0 TX0 12, w ∈ wsX4_init := fun w h => List.mem_cons_of_mem _ (List.mem_append_right _ h)
  have hl := lv_entry ([.ref v, .ref K]) (n := 2) (Nat.le_of_ble_eq_true rfl)
  rw [lg_entry_eq]
  generalize (lg_sl ([.ref v, .ref K]) ++ List.replicate (2 - (lg_sl ([.ref v, .ref K])).length) Slot.unset).toArray = ls at hl ⊢
  have hl : lv_has ls 2 [(0, .ref v), (1, .ref K)] := hl
  refine lv_aload_n hx hb dX4_init_0 rfl (lv_at hl 0 rfl) ?_
  refine W.objInit hx hb hown (hts (.methodLink RX4 3 objectInit) (List.mem_of_getElem? (i := 1) rfl)) (hts (.instanceMethod objectInit) (List.mem_of_getElem? (i := 2) rfl)) (hts (.code objectInit ⟨#[0xb1]⟩ 1 none) (List.mem_of_getElem? (i := 3) rfl)) rfl (by rw [hml]; exact hl.1) rfl dX4_init_1 (Nat.le_of_ble_eq_true rfl) (Nat.le_of_ble_eq_true rfl) ?_
  refine W.eq (g2 := F0 mid 4 ls []) rfl ?_
  refine lv_aload_n hx hb dX4_init_4 rfl (lv_at hl 0 rfl) ?_
  refine lv_iconst (v := 2) hx hb dX4_init_5 (by decide) ?_
  refine pc_newa hx hb (hts (.arrayClass .int) (List.mem_of_getElem? (i := 4) rfl)) hG.1 hP hD hS hA 2 (by decide) rfl (Nat.le_of_ble_eq_true rfl) (Nat.le_of_ble_eq_true rfl) (Nat.le_of_ble_eq_true rfl) dX4_init_6 (fun q1 H hP hD hS => ?_)
  have hP : va_P E.1 vwCl ([(v, .inr (4, [.null, .null, .null, .int 0, .int 0, .int 0])), (q1, pc_ar E.2.2.1.1 2)]) H := hP
  have hD : va_D A ([(v, .inr (4, [.null, .null, .null, .int 0, .int 0, .int 0])), (q1, pc_ar E.2.2.1.1 2)]) := hD
  refine W.widen (k := 1) (n := 2) (Nat.le_of_ble_eq_true rfl) (Nat.le_of_ble_eq_true rfl) ?_
  refine va_putF (C := RX4) (T := TX4) (N := 6) (ty := tyX4 1) (v := .ref q1) hx hb hts hinX4 tyX4 tyX4_ok nmX4 hown hG.1.1 hP hD hS 0 rfl rfl 1 (by decide) (hts (.fieldLink RX4 9 "MilkTwice$House" "wanted" "[I") (List.mem_of_getElem? (i := 5) rfl)) (fun x h => h) rfl hin rfl (tyX4_ok 1 (by decide)) rfl rfl (Nat.le_of_ble_eq_true rfl) dX4_init_8 (fun H locs hP hD hS => ?_)
  have hP : va_P E.1 vwCl ([(v, .inr (4, [.null, .ref q1, .null, .int 0, .int 0, .int 0])), (q1, pc_ar E.2.2.1.1 2)]) H := hP
  have hD : va_D A ([(v, .inr (4, [.null, .ref q1, .null, .int 0, .int 0, .int 0])), (q1, pc_ar E.2.2.1.1 2)]) := hD
  refine lv_aload_n hx hb dX4_init_11 rfl (lv_at hl 0 rfl) ?_
  refine lv_bipush (v := 14) hx hb dX4_init_12 (by decide) ?_
  refine pc_newa hx hb (hts (.arrayClass .int) (List.mem_of_getElem? (i := 4) rfl)) hG.1 hP hD hS hA 14 (by decide) rfl (Nat.le_of_ble_eq_true rfl) (Nat.le_of_ble_eq_true rfl) (Nat.le_of_ble_eq_true rfl) dX4_init_14 (fun q2 H hP hD hS => ?_)
  have hP : va_P E.1 vwCl ([(v, .inr (4, [.null, .ref q1, .null, .int 0, .int 0, .int 0])), (q1, pc_ar E.2.2.1.1 2), (q2, pc_ar E.2.2.1.1 14)]) H := hP
  have hD : va_D A ([(v, .inr (4, [.null, .ref q1, .null, .int 0, .int 0, .int 0])), (q1, pc_ar E.2.2.1.1 2), (q2, pc_ar E.2.2.1.1 14)]) := hD
  refine W.widen (k := 2) (n := 16) (Nat.le_of_ble_eq_true rfl) (Nat.le_of_ble_eq_true rfl) ?_
  refine va_putF (C := RX4) (T := TX4) (N := 6) (ty := tyX4 2) (v := .ref q2) hx hb hts hinX4 tyX4 tyX4_ok nmX4 hown hG.1.1 hP hD hS 0 rfl rfl 2 (by decide) (hts (.fieldLink RX4 15 "MilkTwice$House" "clock" "[I") (List.mem_of_getElem? (i := 6) rfl)) (fun x h => h) rfl hin rfl (tyX4_ok 2 (by decide)) rfl rfl (Nat.le_of_ble_eq_true rfl) dX4_init_16 (fun H locs hP hD hS => ?_)
  have hP : va_P E.1 vwCl ([(v, .inr (4, [.null, .ref q1, .ref q2, .int 0, .int 0, .int 0])), (q1, pc_ar E.2.2.1.1 2), (q2, pc_ar E.2.2.1.1 14)]) H := hP
  have hD : va_D A ([(v, .inr (4, [.null, .ref q1, .ref q2, .int 0, .int 0, .int 0])), (q1, pc_ar E.2.2.1.1 2), (q2, pc_ar E.2.2.1.1 14)]) := hD
  refine lv_aload_n hx hb dX4_init_19 rfl (lv_at hl 0 rfl) ?_
  refine va_new (ci := 0) (fs := [.null, .null, .null, .null, .null, .null, .null, .null, .int 0, .int 0, .int 0, .int 0]) (C := RX0) (T := TX0) (N := 12) hx hb hts hinX0 tyX0 tyX0_ok hown (hts (.classLink RX4 18 RX0) (List.mem_of_getElem? (i := 7) rfl)) (hts (.instantiable RX0 12) (List.mem_of_getElem? (i := 8) rfl)) (hts (.initialized RX0) (List.mem_of_getElem? (i := 9) rfl)) hG.1.1 hP hD hS hA rfl (fun j hj => by rcases (show j = 0 ∨ j = 1 ∨ j = 2 ∨ j = 3 ∨ j = 4 ∨ j = 5 ∨ j = 6 ∨ j = 7 ∨ j = 8 ∨ j = 9 ∨ j = 10 ∨ j = 11 by omega) with rfl | rfl | rfl | rfl | rfl | rfl | rfl | rfl | rfl | rfl | rfl | rfl <;> rfl) (Nat.le_of_ble_eq_true rfl) (Nat.le_of_ble_eq_true rfl) dX4_init_20 (fun q3 H hP hD hS => ?_)
  have hP : va_P E.1 vwCl ([(v, .inr (4, [.null, .ref q1, .ref q2, .int 0, .int 0, .int 0])), (q1, pc_ar E.2.2.1.1 2), (q2, pc_ar E.2.2.1.1 14), (q3, .inr (0, [.null, .null, .null, .null, .null, .null, .null, .null, .int 0, .int 0, .int 0, .int 0]))]) H := hP
  have hD : va_D A ([(v, .inr (4, [.null, .ref q1, .ref q2, .int 0, .int 0, .int 0])), (q1, pc_ar E.2.2.1.1 2), (q2, pc_ar E.2.2.1.1 14), (q3, .inr (0, [.null, .null, .null, .null, .null, .null, .null, .null, .int 0, .int 0, .int 0, .int 0]))]) := hD
  refine W.widen (k := 3) (n := 28) (Nat.le_of_ble_eq_true rfl) (Nat.le_of_ble_eq_true rfl) ?_
  refine lv_dup hx hb dX4_init_23 rfl ?_
  refine lv_aload_n hx hb dX4_init_24 rfl (lv_at hl 1 rfl) ?_
  have hP : va_P E.1 vwCl (([(v, .inr (4, [.null, .ref q1, .ref q2, .int 0, .int 0, .int 0])), (q1, pc_ar E.2.2.1.1 2), (q2, pc_ar E.2.2.1.1 14)]) ++ [(q3, .inr (0, [.null, .null, .null, .null, .null, .null, .null, .null, .int 0, .int 0, .int 0, .int 0]))]) H := hP
  have hD : va_D A (([(v, .inr (4, [.null, .ref q1, .ref q2, .int 0, .int 0, .int 0])), (q1, pc_ar E.2.2.1.1 2), (q2, pc_ar E.2.2.1.1 14)]) ++ [(q3, .inr (0, [.null, .null, .null, .null, .null, .null, .null, .null, .int 0, .int 0, .int 0, .int 0]))]) := hD
  refine pc_call (va_runI (As := [.ref K]) (rest := [.ref q3, .ref v]) ⟨hx, hb, hml, hown, hts⟩ (c_X0_init l E q3 K H.size) (cwI 1 hts gX4_init_X0_init rfl rfl rfl (hts (.initialized RX0) (List.mem_of_getElem? (i := 9) rfl)) (hts (.methodLink RX4 20 yX0_init) (List.mem_of_getElem? (i := 11) rfl)) (hts (.instanceMethod yX0_init) (List.mem_of_getElem? (i := 12) rfl)) rfl (by decide +kernel) ⟨Nat.le_of_ble_eq_true rfl, Nat.le_of_ble_eq_true rfl⟩) (pc_pre hG hP) rfl rfl hl.1 rfl (lv_room (Nat.le_of_ble_eq_true rfl)) dX4_init_25 ⟨Nat.le_of_ble_eq_true rfl, Nat.le_of_ble_eq_true rfl⟩) hP hD hS hA (fun b3 H locs hP hD hS => ?_)
  have hP : va_P E.1 vwCl (([(v, .inr (4, [.null, .ref q1, .ref q2, .int 0, .int 0, .int 0])), (q1, pc_ar E.2.2.1.1 2), (q2, pc_ar E.2.2.1.1 14)]) ++ pc_cup E.2.2.1.1 K q3 b3) H := hP
  have hD : va_D A (([(v, .inr (4, [.null, .ref q1, .ref q2, .int 0, .int 0, .int 0])), (q1, pc_ar E.2.2.1.1 2), (q2, pc_ar E.2.2.1.1 14)]) ++ pc_cup E.2.2.1.1 K q3 b3) := hD
  refine W.widen (k := 10) (n := 77) (Nat.le_of_ble_eq_true rfl) (Nat.le_of_ble_eq_true rfl) ?_
  refine va_putF (C := RX4) (T := TX4) (N := 6) (ty := tyX4 0) (v := .ref q3) hx hb hts hinX4 tyX4 tyX4_ok nmX4 hown hG.1.1 hP hD hS 0 rfl rfl 0 (by decide) (hts (.fieldLink RX4 23 "MilkTwice$House" "cupboard" "LMilkTwice$Cupboard;") (List.mem_of_getElem? (i := 10) rfl)) (fun x h => h) rfl hin rfl (tyX4_ok 0 (by decide)) rfl rfl (Nat.le_of_ble_eq_true rfl) dX4_init_28 (fun H locs hP hD hS => ?_)
  have hP : va_P E.1 vwCl (([(v, .inr (4, [.ref q3, .ref q1, .ref q2, .int 0, .int 0, .int 0])), (q1, pc_ar E.2.2.1.1 2), (q2, pc_ar E.2.2.1.1 14)]) ++ pc_cup E.2.2.1.1 K q3 b3) H := hP
  have hD : va_D A (([(v, .inr (4, [.ref q3, .ref q1, .ref q2, .int 0, .int 0, .int 0])), (q1, pc_ar E.2.2.1.1 2), (q2, pc_ar E.2.2.1.1 14)]) ++ pc_cup E.2.2.1.1 K q3 b3) := hD
  refine W.widen (k := 10) (n := 77) (Nat.le_of_ble_eq_true rfl) (Nat.le_of_ble_eq_true rfl) ?_
  subst hAe
  have hP9 : va_P E.1 vwCl (pc_hou E.2.2.1.1 K v (pc_c q1 (pc_c q2 (pc_c q3 (b3))))) H := hP
  have hD9 := hD
  exact W.vret hx hb hr (fun t ht hW => ⟨⟨(pc_c q1 (pc_c q2 (pc_c q3 (b3)))), rfl, trivial, by rw [ht]; exact hP9, hD9⟩, hS.F ht⟩) hS.2.2 dX4_init_31
set_option maxHeartbeats 4000000 in
set_option maxRecDepth 100000 in
theorem c_X8_init (l : Launch) (E : mt_E) (v B K sz : Nat) : Met l yX8_init wsX8_init ({ frames := 2, cells := 11, slots := 82, locals := 33 } : Room) (pc_P E [.ref v, .ref B, .ref K] [(v, .inr (8, [.null, .null, .null, .null, .null]))] sz) (pc_Q E [(v, .inr (8, [.null, .null, .null, .null, .null]))] sz (fun a => pc_min E.2.2.1.1 K B v a)) 11 82 (va_A [(v, .inr (8, [.null, .null, .null, .null, .null]))] sz) := by
  refine Met.ofW (cc := cX8_init) (maxL := 3) (ret := none) (by decide) rfl ?_
  intro p e s mid args below meth c0 s₁ B9 hml hv
  obtain ⟨rfl, hsz, hG, hP, hD0⟩ := hv
  have hx := B9.exec
  have hb := B9.bytes
  have hr := B9.returns
  have hts := atoms_spec (ws := wsX8_init) B9.pre
  have hown : s.vm.findClass RX8 = some mid.cls := findClass_of_methodNamed B9.named
  have hlocks := B9.notSynchronized
  have hin : meth.name = "<init>" := (name_of_methodNamed B9.named B9.method).1
  subst hsz
  have hD := hD0.self (sz := s.heap.size)
  generalize hAe : va_A [(v, .inr (8, [.null, .null, .null, .null, .null]))] s.heap.size = A at hD ⊢
  have hA : ∀ q : Nat, s.heap.size ≤ q → A q := fun q h => by rw [← hAe]; exact Or.inr h
  have hS : va_S A s.heap s.heap [] := va_S.rf
  have hinX8 : ∀ w ∈ u_ws RX8 TX8 5, w ∈ wsX8_init := fun w h => List.mem_cons_of_mem _ (List.mem_append_left _ (List.mem_append_right _ h))
  have hinX0 : ∀ w ∈ u_ws RX0 TX0 12, w ∈ wsX8_init := fun w h => List.mem_cons_of_mem _ (List.mem_append_right _ h)
  have hl := lv_entry ([.ref v, .ref B, .ref K]) (n := 3) (Nat.le_of_ble_eq_true rfl)
  rw [lg_entry_eq]
  generalize (lg_sl ([.ref v, .ref B, .ref K]) ++ List.replicate (3 - (lg_sl ([.ref v, .ref B, .ref K])).length) Slot.unset).toArray = ls at hl ⊢
  have hl : lv_has ls 3 [(0, .ref v), (1, .ref B), (2, .ref K)] := hl
  refine lv_aload_n hx hb dX8_init_0 rfl (lv_at hl 0 rfl) ?_
  refine W.objInit hx hb hown (hts (.methodLink RX8 3 objectInit) (List.mem_of_getElem? (i := 1) rfl)) (hts (.instanceMethod objectInit) (List.mem_of_getElem? (i := 2) rfl)) (hts (.code objectInit ⟨#[0xb1]⟩ 1 none) (List.mem_of_getElem? (i := 3) rfl)) rfl (by rw [hml]; exact hl.1) rfl dX8_init_1 (Nat.le_of_ble_eq_true rfl) (Nat.le_of_ble_eq_true rfl) ?_
  refine W.eq (g2 := F0 mid 4 ls []) rfl ?_
  refine lv_aload_n hx hb dX8_init_4 rfl (lv_at hl 0 rfl) ?_
  refine lv_bipush (v := 7) hx hb dX8_init_5 (by decide) ?_
  refine pc_newa hx hb (hts (.arrayClass .int) (List.mem_of_getElem? (i := 4) rfl)) hG.1 hP hD hS hA 7 (by decide) rfl (Nat.le_of_ble_eq_true rfl) (Nat.le_of_ble_eq_true rfl) (Nat.le_of_ble_eq_true rfl) dX8_init_7 (fun q1 H hP hD hS => ?_)
  have hP : va_P E.1 vwCl ([(v, .inr (8, [.null, .null, .null, .null, .null])), (q1, pc_ar E.2.2.1.1 7)]) H := hP
  have hD : va_D A ([(v, .inr (8, [.null, .null, .null, .null, .null])), (q1, pc_ar E.2.2.1.1 7)]) := hD
  refine W.widen (k := 1) (n := 7) (Nat.le_of_ble_eq_true rfl) (Nat.le_of_ble_eq_true rfl) ?_
  refine va_putF (C := RX8) (T := TX8) (N := 5) (ty := tyX8 2) (v := .ref q1) hx hb hts hinX8 tyX8 tyX8_ok nmX8 hown hG.1.1 hP hD hS 0 rfl rfl 2 (by decide) (hts (.fieldLink RX8 9 "MilkTwice$Mind" "lackedWithout" "[I") (List.mem_of_getElem? (i := 5) rfl)) (fun x h => h) rfl hin rfl (tyX8_ok 2 (by decide)) rfl rfl (Nat.le_of_ble_eq_true rfl) dX8_init_9 (fun H locs hP hD hS => ?_)
  have hP : va_P E.1 vwCl ([(v, .inr (8, [.null, .null, .ref q1, .null, .null])), (q1, pc_ar E.2.2.1.1 7)]) H := hP
  have hD : va_D A ([(v, .inr (8, [.null, .null, .ref q1, .null, .null])), (q1, pc_ar E.2.2.1.1 7)]) := hD
  refine lv_aload_n hx hb dX8_init_12 rfl (lv_at hl 0 rfl) ?_
  refine lv_bipush (v := 7) hx hb dX8_init_13 (by decide) ?_
  refine pc_newa hx hb (hts (.arrayClass .int) (List.mem_of_getElem? (i := 4) rfl)) hG.1 hP hD hS hA 7 (by decide) rfl (Nat.le_of_ble_eq_true rfl) (Nat.le_of_ble_eq_true rfl) (Nat.le_of_ble_eq_true rfl) dX8_init_15 (fun q2 H hP hD hS => ?_)
  have hP : va_P E.1 vwCl ([(v, .inr (8, [.null, .null, .ref q1, .null, .null])), (q1, pc_ar E.2.2.1.1 7), (q2, pc_ar E.2.2.1.1 7)]) H := hP
  have hD : va_D A ([(v, .inr (8, [.null, .null, .ref q1, .null, .null])), (q1, pc_ar E.2.2.1.1 7), (q2, pc_ar E.2.2.1.1 7)]) := hD
  refine W.widen (k := 2) (n := 14) (Nat.le_of_ble_eq_true rfl) (Nat.le_of_ble_eq_true rfl) ?_
  refine va_putF (C := RX8) (T := TX8) (N := 5) (ty := tyX8 3) (v := .ref q2) hx hb hts hinX8 tyX8 tyX8_ok nmX8 hown hG.1.1 hP hD hS 0 rfl rfl 3 (by decide) (hts (.fieldLink RX8 15 "MilkTwice$Mind" "lackedWith" "[I") (List.mem_of_getElem? (i := 6) rfl)) (fun x h => h) rfl hin rfl (tyX8_ok 3 (by decide)) rfl rfl (Nat.le_of_ble_eq_true rfl) dX8_init_17 (fun H locs hP hD hS => ?_)
  have hP : va_P E.1 vwCl ([(v, .inr (8, [.null, .null, .ref q1, .ref q2, .null])), (q1, pc_ar E.2.2.1.1 7), (q2, pc_ar E.2.2.1.1 7)]) H := hP
  have hD : va_D A ([(v, .inr (8, [.null, .null, .ref q1, .ref q2, .null])), (q1, pc_ar E.2.2.1.1 7), (q2, pc_ar E.2.2.1.1 7)]) := hD
  refine lv_aload_n hx hb dX8_init_20 rfl (lv_at hl 0 rfl) ?_
  refine lv_bipush (v := 7) hx hb dX8_init_21 (by decide) ?_
  refine pc_newa hx hb (hts (.arrayClass .int) (List.mem_of_getElem? (i := 4) rfl)) hG.1 hP hD hS hA 7 (by decide) rfl (Nat.le_of_ble_eq_true rfl) (Nat.le_of_ble_eq_true rfl) (Nat.le_of_ble_eq_true rfl) dX8_init_23 (fun q3 H hP hD hS => ?_)
  have hP : va_P E.1 vwCl ([(v, .inr (8, [.null, .null, .ref q1, .ref q2, .null])), (q1, pc_ar E.2.2.1.1 7), (q2, pc_ar E.2.2.1.1 7), (q3, pc_ar E.2.2.1.1 7)]) H := hP
  have hD : va_D A ([(v, .inr (8, [.null, .null, .ref q1, .ref q2, .null])), (q1, pc_ar E.2.2.1.1 7), (q2, pc_ar E.2.2.1.1 7), (q3, pc_ar E.2.2.1.1 7)]) := hD
  refine W.widen (k := 3) (n := 21) (Nat.le_of_ble_eq_true rfl) (Nat.le_of_ble_eq_true rfl) ?_
  refine va_putF (C := RX8) (T := TX8) (N := 5) (ty := tyX8 4) (v := .ref q3) hx hb hts hinX8 tyX8 tyX8_ok nmX8 hown hG.1.1 hP hD hS 0 rfl rfl 4 (by decide) (hts (.fieldLink RX8 18 "MilkTwice$Mind" "cost" "[I") (List.mem_of_getElem? (i := 7) rfl)) (fun x h => h) rfl hin rfl (tyX8_ok 4 (by decide)) rfl rfl (Nat.le_of_ble_eq_true rfl) dX8_init_25 (fun H locs hP hD hS => ?_)
  have hP : va_P E.1 vwCl ([(v, .inr (8, [.null, .null, .ref q1, .ref q2, .ref q3])), (q1, pc_ar E.2.2.1.1 7), (q2, pc_ar E.2.2.1.1 7), (q3, pc_ar E.2.2.1.1 7)]) H := hP
  have hD : va_D A ([(v, .inr (8, [.null, .null, .ref q1, .ref q2, .ref q3])), (q1, pc_ar E.2.2.1.1 7), (q2, pc_ar E.2.2.1.1 7), (q3, pc_ar E.2.2.1.1 7)]) := hD
  refine lv_aload_n hx hb dX8_init_28 rfl (lv_at hl 0 rfl) ?_
  refine lv_aload_n hx hb dX8_init_29 rfl (lv_at hl 1 rfl) ?_
  refine va_putF (C := RX8) (T := TX8) (N := 5) (ty := tyX8 0) (v := .ref B) hx hb hts hinX8 tyX8 tyX8_ok nmX8 hown hG.1.1 hP hD hS 0 rfl rfl 0 (by decide) (hts (.fieldLink RX8 21 "MilkTwice$Mind" "house" "LMilkTwice$House;") (List.mem_of_getElem? (i := 8) rfl)) (fun x h => h) rfl hin rfl (tyX8_ok 0 (by decide)) rfl rfl (Nat.le_of_ble_eq_true rfl) dX8_init_30 (fun H locs hP hD hS => ?_)
  have hP : va_P E.1 vwCl ([(v, .inr (8, [.ref B, .null, .ref q1, .ref q2, .ref q3])), (q1, pc_ar E.2.2.1.1 7), (q2, pc_ar E.2.2.1.1 7), (q3, pc_ar E.2.2.1.1 7)]) H := hP
  have hD : va_D A ([(v, .inr (8, [.ref B, .null, .ref q1, .ref q2, .ref q3])), (q1, pc_ar E.2.2.1.1 7), (q2, pc_ar E.2.2.1.1 7), (q3, pc_ar E.2.2.1.1 7)]) := hD
  refine lv_aload_n hx hb dX8_init_33 rfl (lv_at hl 0 rfl) ?_
  refine va_new (ci := 0) (fs := [.null, .null, .null, .null, .null, .null, .null, .null, .int 0, .int 0, .int 0, .int 0]) (C := RX0) (T := TX0) (N := 12) hx hb hts hinX0 tyX0 tyX0_ok hown (hts (.classLink RX8 25 RX0) (List.mem_of_getElem? (i := 9) rfl)) (hts (.instantiable RX0 12) (List.mem_of_getElem? (i := 10) rfl)) (hts (.initialized RX0) (List.mem_of_getElem? (i := 11) rfl)) hG.1.1 hP hD hS hA rfl (fun j hj => by rcases (show j = 0 ∨ j = 1 ∨ j = 2 ∨ j = 3 ∨ j = 4 ∨ j = 5 ∨ j = 6 ∨ j = 7 ∨ j = 8 ∨ j = 9 ∨ j = 10 ∨ j = 11 by omega) with rfl | rfl | rfl | rfl | rfl | rfl | rfl | rfl | rfl | rfl | rfl | rfl <;> rfl) (Nat.le_of_ble_eq_true rfl) (Nat.le_of_ble_eq_true rfl) dX8_init_34 (fun q4 H hP hD hS => ?_)
  have hP : va_P E.1 vwCl ([(v, .inr (8, [.ref B, .null, .ref q1, .ref q2, .ref q3])), (q1, pc_ar E.2.2.1.1 7), (q2, pc_ar E.2.2.1.1 7), (q3, pc_ar E.2.2.1.1 7), (q4, .inr (0, [.null, .null, .null, .null, .null, .null, .null, .null, .int 0, .int 0, .int 0, .int 0]))]) H := hP
  have hD : va_D A ([(v, .inr (8, [.ref B, .null, .ref q1, .ref q2, .ref q3])), (q1, pc_ar E.2.2.1.1 7), (q2, pc_ar E.2.2.1.1 7), (q3, pc_ar E.2.2.1.1 7), (q4, .inr (0, [.null, .null, .null, .null, .null, .null, .null, .null, .int 0, .int 0, .int 0, .int 0]))]) := hD
  refine W.widen (k := 4) (n := 33) (Nat.le_of_ble_eq_true rfl) (Nat.le_of_ble_eq_true rfl) ?_
  refine lv_dup hx hb dX8_init_37 rfl ?_
  refine lv_aload_n hx hb dX8_init_38 rfl (lv_at hl 2 rfl) ?_
  have hP : va_P E.1 vwCl (([(v, .inr (8, [.ref B, .null, .ref q1, .ref q2, .ref q3])), (q1, pc_ar E.2.2.1.1 7), (q2, pc_ar E.2.2.1.1 7), (q3, pc_ar E.2.2.1.1 7)]) ++ [(q4, .inr (0, [.null, .null, .null, .null, .null, .null, .null, .null, .int 0, .int 0, .int 0, .int 0]))]) H := hP
  have hD : va_D A (([(v, .inr (8, [.ref B, .null, .ref q1, .ref q2, .ref q3])), (q1, pc_ar E.2.2.1.1 7), (q2, pc_ar E.2.2.1.1 7), (q3, pc_ar E.2.2.1.1 7)]) ++ [(q4, .inr (0, [.null, .null, .null, .null, .null, .null, .null, .null, .int 0, .int 0, .int 0, .int 0]))]) := hD
  refine pc_call (va_runI (As := [.ref K]) (rest := [.ref q4, .ref v]) ⟨hx, hb, hml, hown, hts⟩ (c_X0_init l E q4 K H.size) (cwI 1 hts gX8_init_X0_init rfl rfl rfl (hts (.initialized RX0) (List.mem_of_getElem? (i := 11) rfl)) (hts (.methodLink RX8 27 yX0_init) (List.mem_of_getElem? (i := 13) rfl)) (hts (.instanceMethod yX0_init) (List.mem_of_getElem? (i := 14) rfl)) rfl (by decide +kernel) ⟨Nat.le_of_ble_eq_true rfl, Nat.le_of_ble_eq_true rfl⟩) (pc_pre hG hP) rfl rfl hl.1 rfl (lv_room (Nat.le_of_ble_eq_true rfl)) dX8_init_39 ⟨Nat.le_of_ble_eq_true rfl, Nat.le_of_ble_eq_true rfl⟩) hP hD hS hA (fun b4 H locs hP hD hS => ?_)
  have hP : va_P E.1 vwCl (([(v, .inr (8, [.ref B, .null, .ref q1, .ref q2, .ref q3])), (q1, pc_ar E.2.2.1.1 7), (q2, pc_ar E.2.2.1.1 7), (q3, pc_ar E.2.2.1.1 7)]) ++ pc_cup E.2.2.1.1 K q4 b4) H := hP
  have hD : va_D A (([(v, .inr (8, [.ref B, .null, .ref q1, .ref q2, .ref q3])), (q1, pc_ar E.2.2.1.1 7), (q2, pc_ar E.2.2.1.1 7), (q3, pc_ar E.2.2.1.1 7)]) ++ pc_cup E.2.2.1.1 K q4 b4) := hD
  refine W.widen (k := 11) (n := 82) (Nat.le_of_ble_eq_true rfl) (Nat.le_of_ble_eq_true rfl) ?_
  refine va_putF (C := RX8) (T := TX8) (N := 5) (ty := tyX8 1) (v := .ref q4) hx hb hts hinX8 tyX8 tyX8_ok nmX8 hown hG.1.1 hP hD hS 0 rfl rfl 1 (by decide) (hts (.fieldLink RX8 30 "MilkTwice$Mind" "shelf" "LMilkTwice$Cupboard;") (List.mem_of_getElem? (i := 12) rfl)) (fun x h => h) rfl hin rfl (tyX8_ok 1 (by decide)) rfl rfl (Nat.le_of_ble_eq_true rfl) dX8_init_42 (fun H locs hP hD hS => ?_)
  have hP : va_P E.1 vwCl (([(v, .inr (8, [.ref B, .ref q4, .ref q1, .ref q2, .ref q3])), (q1, pc_ar E.2.2.1.1 7), (q2, pc_ar E.2.2.1.1 7), (q3, pc_ar E.2.2.1.1 7)]) ++ pc_cup E.2.2.1.1 K q4 b4) H := hP
  have hD : va_D A (([(v, .inr (8, [.ref B, .ref q4, .ref q1, .ref q2, .ref q3])), (q1, pc_ar E.2.2.1.1 7), (q2, pc_ar E.2.2.1.1 7), (q3, pc_ar E.2.2.1.1 7)]) ++ pc_cup E.2.2.1.1 K q4 b4) := hD
  refine W.widen (k := 11) (n := 82) (Nat.le_of_ble_eq_true rfl) (Nat.le_of_ble_eq_true rfl) ?_
  subst hAe
  have hP9 : va_P E.1 vwCl (pc_min E.2.2.1.1 K B v (pc_c q1 (pc_c q2 (pc_c q3 (pc_c q4 (b4)))))) H := hP
  have hD9 := hD
  exact W.vret hx hb hr (fun t ht hW => ⟨⟨(pc_c q1 (pc_c q2 (pc_c q3 (pc_c q4 (b4))))), rfl, trivial, by rw [ht]; exact hP9, hD9⟩, hS.F ht⟩) hS.2.2 dX8_init_45
set_option maxHeartbeats 4000000 in
set_option maxRecDepth 100000 in
theorem c_X7_init (l : Launch) (E : mt_E) (v sz : Nat) : Met l yX7_init wsX7_init ({ frames := 1, cells := 1, slots := 96, locals := 12 } : Room) (pc_P E [.ref v] [(v, .inr (7, [.null, .int 0]))] sz) (pc_Q E [(v, .inr (7, [.null, .int 0]))] sz (fun a => pc_let E.2.2.1.1 v a)) 1 96 (va_A [(v, .inr (7, [.null, .int 0]))] sz) := by
  refine Met.ofW (cc := cX7_init) (maxL := 1) (ret := none) (by decide) rfl ?_
  intro p e s mid args below meth c0 s₁ B hml hv
  obtain ⟨rfl, hsz, hG, hP, hD0⟩ := hv
  have hx := B.exec
  have hb := B.bytes
  have hr := B.returns
  have hts := atoms_spec (ws := wsX7_init) B.pre
  have hown : s.vm.findClass RX7 = some mid.cls := findClass_of_methodNamed B.named
  have hlocks := B.notSynchronized
  have hin : meth.name = "<init>" := (name_of_methodNamed B.named B.method).1
  subst hsz
  have hD := hD0.self (sz := s.heap.size)
  generalize hAe : va_A [(v, .inr (7, [.null, .int 0]))] s.heap.size = A at hD ⊢
  have hA : ∀ q : Nat, s.heap.size ≤ q → A q := fun q h => by rw [← hAe]; exact Or.inr h
  have hS : va_S A s.heap s.heap [] := va_S.rf
  have hinX7 : ∀ w ∈ u_ws RX7 TX7 2, w ∈ wsX7_init := fun w h => List.mem_cons_of_mem _ (List.mem_append_right _ h)
  have hl := lv_entry ([.ref v]) (n := 1) (Nat.le_of_ble_eq_true rfl)
  rw [lg_entry_eq]
  generalize (lg_sl ([.ref v]) ++ List.replicate (1 - (lg_sl ([.ref v])).length) Slot.unset).toArray = ls at hl ⊢
  have hl : lv_has ls 1 [(0, .ref v)] := hl
  refine lv_aload_n hx hb dX7_init_0 rfl (lv_at hl 0 rfl) ?_
  refine W.objInit hx hb hown (hts (.methodLink RX7 3 objectInit) (List.mem_of_getElem? (i := 1) rfl)) (hts (.instanceMethod objectInit) (List.mem_of_getElem? (i := 2) rfl)) (hts (.code objectInit ⟨#[0xb1]⟩ 1 none) (List.mem_of_getElem? (i := 3) rfl)) rfl (by rw [hml]; exact hl.1) rfl dX7_init_1 (Nat.le_of_ble_eq_true rfl) (Nat.le_of_ble_eq_true rfl) ?_
  refine W.eq (g2 := F0 mid 4 ls []) rfl ?_
  refine lv_aload_n hx hb dX7_init_4 rfl (lv_at hl 0 rfl) ?_
  refine lv_bipush (v := 96) hx hb dX7_init_5 (by decide) ?_
  refine pc_newa hx hb (hts (.arrayClass .int) (List.mem_of_getElem? (i := 4) rfl)) hG.1 hP hD hS hA 96 (by decide) rfl (Nat.le_of_ble_eq_true rfl) (Nat.le_of_ble_eq_true rfl) (Nat.le_of_ble_eq_true rfl) dX7_init_7 (fun q1 H hP hD hS => ?_)
  have hP : va_P E.1 vwCl ([(v, .inr (7, [.null, .int 0])), (q1, pc_ar E.2.2.1.1 96)]) H := hP
  have hD : va_D A ([(v, .inr (7, [.null, .int 0])), (q1, pc_ar E.2.2.1.1 96)]) := hD
  refine W.widen (k := 1) (n := 96) (Nat.le_of_ble_eq_true rfl) (Nat.le_of_ble_eq_true rfl) ?_
  refine va_putF (C := RX7) (T := TX7) (N := 2) (ty := tyX7 0) (v := .ref q1) hx hb hts hinX7 tyX7 tyX7_ok nmX7 hown hG.1.1 hP hD hS 0 rfl rfl 0 (by decide) (hts (.fieldLink RX7 9 "MilkTwice$Letters" "text" "[I") (List.mem_of_getElem? (i := 5) rfl)) (fun x h => h) rfl hin rfl (tyX7_ok 0 (by decide)) rfl rfl (Nat.le_of_ble_eq_true rfl) dX7_init_9 (fun H locs hP hD hS => ?_)
  have hP : va_P E.1 vwCl ([(v, .inr (7, [.ref q1, .int 0])), (q1, pc_ar E.2.2.1.1 96)]) H := hP
  have hD : va_D A ([(v, .inr (7, [.ref q1, .int 0])), (q1, pc_ar E.2.2.1.1 96)]) := hD
  refine W.widen (k := 1) (n := 96) (Nat.le_of_ble_eq_true rfl) (Nat.le_of_ble_eq_true rfl) ?_
  subst hAe
  have hP9 : va_P E.1 vwCl (pc_let E.2.2.1.1 v (pc_c q1 (fun _ => 0))) H := hP
  have hD9 := hD
  exact W.vret hx hb hr (fun t ht hW => ⟨⟨(pc_c q1 (fun _ => 0)), rfl, trivial, by rw [ht]; exact hP9, hD9⟩, hS.F ht⟩) hS.2.2 dX7_init_12

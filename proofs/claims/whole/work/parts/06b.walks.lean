/-! THE WALKS, laid by program: each method returns what its pure function says, and leaves the memory so -/
set_option maxHeartbeats 4000000 in
set_option maxRecDepth 100000 in
theorem c_X0_stockOfAll (l : Launch) (E : mt_E) (c : Nat) (hc : mt_cup c) (M : mt_M) (u : mt_U) (r : Int32) (hf : f_X0_stockOfAll c M = some (r)) : Met l yX0_stockOfAll wsX0_stockOfAll ({ frames := 0, cells := 0, slots := 0, locals := 0 } : Room) (mt_P E [.ref (E.2.1 c)] M u) (mt_Qi E r M u) 0 0 (mt_A E) := by
  refine Met.ofW (cc := cX0_stockOfAll) (maxL := 3) (ret := (some .int)) (by decide) rfl ?_
  intro p e s mid args below meth c0 s₁ B hml hv
  obtain ⟨rfl, hI, hH⟩ := hv
  have hx := B.exec
  have hb := B.bytes
  have hr := B.returns
  have hts := atoms_spec (ws := wsX0_stockOfAll) B.pre
  have hown : s.vm.findClass RX0 = some mid.cls := findClass_of_methodNamed B.named
  have hlocks := B.notSynchronized
  have hS : va_S (mt_A E) s.heap s.heap [] := va_S.rf
  have hl := lv_entry ([.ref (E.2.1 c)]) (n := 3) (Nat.le_of_ble_eq_true rfl)
  rw [lg_entry_eq]
  generalize (lg_sl ([.ref (E.2.1 c)]) ++ List.replicate (3 - (lg_sl ([.ref (E.2.1 c)])).length) Slot.unset).toArray = ls at hl ⊢
  have hl : lv_has ls 3 [(0, .ref (E.2.1 c))] := hl
  unfold f_X0_stockOfAll at hf
  have kw0 := hts (.fieldLink RX0 43 "MilkTwice$Cupboard" "things" "I") (List.mem_of_getElem? (i := 1) rfl)
  have kw1 := hts (.fieldLink RX0 27 "MilkTwice$Cupboard" "stock" "[I") (List.mem_of_getElem? (i := 2) rfl)
  have hinX0 : ∀ w ∈ u_ws RX0 TX0 12, w ∈ wsX0_stockOfAll := fun w h => List.mem_cons_of_mem _ (List.mem_append_right _ h)
  refine lv_iconst (v := 0) hx hb dX0_stockOfAll_0 (by decide) ?_
  refine lv_istore_n (lv' := [(1, .int (0 : Int32)), (0, .ref (E.2.1 c))]) hx hb dX0_stockOfAll_1 rfl hl (by decide) rfl (fun ls hl => ?_)
  refine lv_iconst (v := 0) hx hb dX0_stockOfAll_2 (by decide) ?_
  refine lv_istore_n (lv' := [(2, .int (0 : Int32)), (1, .int (0 : Int32)), (0, .ref (E.2.1 c))]) hx hb dX0_stockOfAll_3 rfl hl (by decide) rfl (fun ls hl => ?_)
  refine mt_lpI2 hf (fun (x1 : Int32) (x2 : Int32) => ∀ (H : Heap) (locs : List Loc) (ls : Array Slot), mt_H E M u H → va_S (mt_A E) s.heap H locs → lv_has ls 3 [(0, .ref (E.2.1 c)), (1, .int x1), (2, .int x2)] → W p l e (headSpec wsX0_stockOfAll ({ frames := 0, cells := 0, slots := 0, locals := 0 } : Room)).room s mid (([.ref (E.2.1 c)] : List Value).toArray) below meth c0 H locs 0 0 (MQ below (mt_Qi E r M u) (([.ref (E.2.1 c)] : List Value).toArray) s 0 0 (mt_A E)) (F0 mid 4 ls [])) ?_ _ _ _ hH hS (lv_sub hl [2, 1, 0] rfl)
  intro k3 ih4 x1 x2 hf H locs ls hH hS hl
  refine lv_iload_n hx hb dX0_stockOfAll_4 rfl (lv_at hl 2 rfl) ?_
  refine lv_aload_n hx hb dX0_stockOfAll_5 rfl (lv_at hl 0 rfl) ?_
  refine mt_geti (C := RX0) (T := TX0) (N := 12) hx hb hts hinX0 hown hI hH (mt_T_cup hc) rfl 8 (by decide) kw0 rfl rfl dX0_stockOfAll_6 ?_
  refine lv_icmp_ge (tgt := 27) hx hb dX0_stockOfAll_9 (by decide) (fun c5 => ?_) (fun c5 => ?_)
  · have hf := mt_ifT c5 hf
    refine lv_iload_n hx hb dX0_stockOfAll_27 rfl (lv_at hl 1 rfl) ?_
    have i1 := mt_so1 hf
    subst i1
    exact mt_iret hx hb hr hI hH hS hlocks dX0_stockOfAll_28
  · have hf := mt_ifF c5 hf
    refine lv_iload_n hx hb dX0_stockOfAll_12 rfl (lv_at hl 1 rfl) ?_
    refine lv_aload_n hx hb dX0_stockOfAll_13 rfl (lv_at hl 0 rfl) ?_
    refine mt_getr (C := RX0) (T := TX0) (N := 12) hx hb hts hinX0 hown hI hH (mt_T_cup hc) rfl 6 (by decide) kw1 rfl rfl dX0_stockOfAll_14 ?_
    refine lv_iload_n hx hb dX0_stockOfAll_17 rfl (lv_at hl 2 rfl) ?_
    refine mt_ciI hf (fun q6 hf => ?_)
    refine mt_iald hx hb hI hH (mt_T_cupA hc 6 (by decide) (by decide)) q6 dX0_stockOfAll_18 ?_
    refine lv_iadd hx hb dX0_stockOfAll_19 ?_
    refine mt_lti hf (fun x7 ex7 hf => ?_)
    refine lv_istore_n (lv' := [(1, .int x7), (0, .ref (E.2.1 c)), (2, .int x2)]) hx hb dX0_stockOfAll_20 rfl hl (by decide) rfl (fun ls hl => ?_)
    refine mt_ltI hf (fun x8 ex8 hf => ?_)
    refine lv_iinc (v := x8) (lv' := [(2, .int x8), (1, .int x7), (0, .ref (E.2.1 c))]) hx hb dX0_stockOfAll_21 hl (k := 2) rfl (by rw [ex8]; rfl) (by decide) rfl (fun ls hl => ?_)
    refine lv_goto (tgt := 4) hx hb dX0_stockOfAll_24 (by decide) ?_
    exact ih4 x7 x8 hf _ _ _ hH hS (lv_sub hl [2, 1, 0] rfl)
set_option maxHeartbeats 4000000 in
set_option maxRecDepth 100000 in
theorem c_X0_byPack (l : Launch) (E : mt_E) (c : Nat) (hc : mt_cup c) (a1 : Int32) (a2 : Int32) (M : mt_M) (u : mt_U) (r : Int32) (hf : f_X0_byPack c a1 a2 M = some (r)) : Met l yX0_byPack wsX0_byPack ({ frames := 2, cells := 0, slots := 0, locals := 42 } : Room) (mt_P E [.ref (E.2.1 c), .int a1, .int a2] M u) (mt_Qi E r M u) 0 0 (mt_A E) := by
  refine Met.ofW (cc := cX0_byPack) (maxL := 4) (ret := (some .int)) (by decide) rfl ?_
  intro p e s mid args below meth c0 s₁ B hml hv
  obtain ⟨rfl, hI, hH⟩ := hv
  have hx := B.exec
  have hb := B.bytes
  have hr := B.returns
  have hts := atoms_spec (ws := wsX0_byPack) B.pre
  have hown : s.vm.findClass RX0 = some mid.cls := findClass_of_methodNamed B.named
  have hlocks := B.notSynchronized
  have hS : va_S (mt_A E) s.heap s.heap [] := va_S.rf
  have hl := lv_entry ([.ref (E.2.1 c), .int a1, .int a2]) (n := 4) (Nat.le_of_ble_eq_true rfl)
  rw [lg_entry_eq]
  generalize (lg_sl ([.ref (E.2.1 c), .int a1, .int a2]) ++ List.replicate (4 - (lg_sl ([.ref (E.2.1 c), .int a1, .int a2])).length) Slot.unset).toArray = ls at hl ⊢
  have hl : lv_has ls 4 [(0, .ref (E.2.1 c)), (1, .int a1), (2, .int a2)] := hl
  unfold f_X0_byPack at hf
  refine lv_aload_n hx hb dX0_byPack_0 rfl (lv_at hl 0 rfl) ?_
  refine lv_iload_n hx hb dX0_byPack_1 rfl (lv_at hl 2 rfl) ?_
  refine mt_b1I hf (fun r2 hg1 hf => ?_)
  refine mt_goi (mt_runV (i := c) (As := [.int a2]) (rest := []) ⟨hx, hb, hml, hown, hts⟩ hI hH (c_X0_packOf l E c hc a2 M u _ hg1) (cwV 1 hts gX0_byPack_X0_packOf rfl rfl rfl (by decide +kernel) ⟨Nat.le_of_ble_eq_true rfl, Nat.le_of_ble_eq_true rfl⟩) (mt_T_cup hc) rfl rfl hl.1 rfl (Nat.le_of_ble_eq_true rfl) dX0_byPack_2 ⟨Nat.zero_le _, Nat.zero_le _⟩) hS (fun H locs hH hS => ?_)
  refine lv_istore_n (lv' := [(3, .int r2), (0, .ref (E.2.1 c)), (1, .int a1), (2, .int a2)]) hx hb dX0_byPack_5 rfl hl (by decide) rfl (fun ls hl => ?_)
  refine lv_iload_n hx hb dX0_byPack_6 rfl (lv_at hl 0 rfl) ?_
  refine lv_if_le (tgt := 16) hx hb dX0_byPack_7 (by decide) (fun c3 => ?_) (fun c3 => ?_)
  · have hf := mt_ifT c3 hf
    refine lv_iconst (v := 0) hx hb dX0_byPack_16 (by decide) ?_
    have i1 := mt_so1 hf
    subst i1
    exact mt_iret hx hb hr hI hH hS hlocks dX0_byPack_17
  · have hf := mt_ifF c3 hf
    refine lv_iload_n hx hb dX0_byPack_10 rfl (lv_at hl 2 rfl) ?_
    refine lv_iload_n hx hb dX0_byPack_11 rfl (lv_at hl 0 rfl) ?_
    refine mt_ckI hf (fun q4 hf => ?_)
    refine lv_idiv hx hb dX0_byPack_12 q4 ?_
    refine lv_goto (tgt := 17) hx hb dX0_byPack_13 (by decide) ?_
    have i1 := mt_so1 hf
    subst i1
    exact mt_iret hx hb hr hI hH hS hlocks dX0_byPack_17
set_option maxHeartbeats 4000000 in
set_option maxRecDepth 100000 in
theorem c_X0_worthOfAll (l : Launch) (E : mt_E) (c : Nat) (hc : mt_cup c) (M : mt_M) (u : mt_U) (r : Int32) (hf : f_X0_worthOfAll c M = some (r)) : Met l yX0_worthOfAll wsX0_worthOfAll ({ frames := 3, cells := 0, slots := 0, locals := 65 } : Room) (mt_P E [.ref (E.2.1 c)] M u) (mt_Qi E r M u) 0 0 (mt_A E) := by
  refine Met.ofW (cc := cX0_worthOfAll) (maxL := 3) (ret := (some .int)) (by decide) rfl ?_
  intro p e s mid args below meth c0 s₁ B hml hv
  obtain ⟨rfl, hI, hH⟩ := hv
  have hx := B.exec
  have hb := B.bytes
  have hr := B.returns
  have hts := atoms_spec (ws := wsX0_worthOfAll) B.pre
  have hown : s.vm.findClass RX0 = some mid.cls := findClass_of_methodNamed B.named
  have hlocks := B.notSynchronized
  have hS : va_S (mt_A E) s.heap s.heap [] := va_S.rf
  have hl := lv_entry ([.ref (E.2.1 c)]) (n := 3) (Nat.le_of_ble_eq_true rfl)
  rw [lg_entry_eq]
  generalize (lg_sl ([.ref (E.2.1 c)]) ++ List.replicate (3 - (lg_sl ([.ref (E.2.1 c)])).length) Slot.unset).toArray = ls at hl ⊢
  have hl : lv_has ls 3 [(0, .ref (E.2.1 c))] := hl
  unfold f_X0_worthOfAll at hf
  have kw0 := hts (.fieldLink RX0 43 "MilkTwice$Cupboard" "things" "I") (List.mem_of_getElem? (i := 1) rfl)
  have kw1 := hts (.fieldLink RX0 27 "MilkTwice$Cupboard" "stock" "[I") (List.mem_of_getElem? (i := 2) rfl)
  have kw2 := hts (.fieldLink RX0 21 "MilkTwice$Cupboard" "price" "[I") (List.mem_of_getElem? (i := 3) rfl)
  have hinX0 : ∀ w ∈ u_ws RX0 TX0 12, w ∈ wsX0_worthOfAll := fun w h => List.mem_cons_of_mem _ (List.mem_append_right _ h)
  refine lv_iconst (v := 0) hx hb dX0_worthOfAll_0 (by decide) ?_
  refine lv_istore_n (lv' := [(1, .int (0 : Int32)), (0, .ref (E.2.1 c))]) hx hb dX0_worthOfAll_1 rfl hl (by decide) rfl (fun ls hl => ?_)
  refine lv_iconst (v := 0) hx hb dX0_worthOfAll_2 (by decide) ?_
  refine lv_istore_n (lv' := [(2, .int (0 : Int32)), (1, .int (0 : Int32)), (0, .ref (E.2.1 c))]) hx hb dX0_worthOfAll_3 rfl hl (by decide) rfl (fun ls hl => ?_)
  refine mt_lpI2 hf (fun (x1 : Int32) (x2 : Int32) => ∀ (H : Heap) (locs : List Loc) (ls : Array Slot), mt_H E M u H → va_S (mt_A E) s.heap H locs → lv_has ls 3 [(0, .ref (E.2.1 c)), (1, .int x1), (2, .int x2)] → W p l e (headSpec wsX0_worthOfAll ({ frames := 3, cells := 0, slots := 0, locals := 65 } : Room)).room s mid (([.ref (E.2.1 c)] : List Value).toArray) below meth c0 H locs 0 0 (MQ below (mt_Qi E r M u) (([.ref (E.2.1 c)] : List Value).toArray) s 0 0 (mt_A E)) (F0 mid 4 ls [])) ?_ _ _ _ hH hS (lv_sub hl [2, 1, 0] rfl)
  intro k3 ih4 x1 x2 hf H locs ls hH hS hl
  refine lv_iload_n hx hb dX0_worthOfAll_4 rfl (lv_at hl 2 rfl) ?_
  refine lv_aload_n hx hb dX0_worthOfAll_5 rfl (lv_at hl 0 rfl) ?_
  refine mt_geti (C := RX0) (T := TX0) (N := 12) hx hb hts hinX0 hown hI hH (mt_T_cup hc) rfl 8 (by decide) kw0 rfl rfl dX0_worthOfAll_6 ?_
  refine lv_icmp_ge (tgt := 39) hx hb dX0_worthOfAll_9 (by decide) (fun c5 => ?_) (fun c5 => ?_)
  · have hf := mt_ifT c5 hf
    refine lv_iload_n hx hb dX0_worthOfAll_39 rfl (lv_at hl 1 rfl) ?_
    have i1 := mt_so1 hf
    subst i1
    exact mt_iret hx hb hr hI hH hS hlocks dX0_worthOfAll_40
  · have hf := mt_ifF c5 hf
    refine lv_iload_n hx hb dX0_worthOfAll_12 rfl (lv_at hl 1 rfl) ?_
    refine lv_aload_n hx hb dX0_worthOfAll_13 rfl (lv_at hl 0 rfl) ?_
    refine lv_aload_n hx hb dX0_worthOfAll_14 rfl (lv_at hl 0 rfl) ?_
    refine mt_getr (C := RX0) (T := TX0) (N := 12) hx hb hts hinX0 hown hI hH (mt_T_cup hc) rfl 6 (by decide) kw1 rfl rfl dX0_worthOfAll_15 ?_
    refine lv_iload_n hx hb dX0_worthOfAll_18 rfl (lv_at hl 2 rfl) ?_
    refine mt_ciI hf (fun q6 hf => ?_)
    refine mt_iald hx hb hI hH (mt_T_cupA hc 6 (by decide) (by decide)) q6 dX0_worthOfAll_19 ?_
    refine lv_aload_n hx hb dX0_worthOfAll_20 rfl (lv_at hl 0 rfl) ?_
    refine mt_getr (C := RX0) (T := TX0) (N := 12) hx hb hts hinX0 hown hI hH (mt_T_cup hc) rfl 4 (by decide) kw2 rfl rfl dX0_worthOfAll_21 ?_
    refine lv_iload_n hx hb dX0_worthOfAll_24 rfl (lv_at hl 2 rfl) ?_
    refine mt_ciI hf (fun q7 hf => ?_)
    refine mt_iald hx hb hI hH (mt_T_cupA hc 4 (by decide) (by decide)) q7 dX0_worthOfAll_25 ?_
    refine lv_imul hx hb dX0_worthOfAll_26 ?_
    refine lv_iload_n hx hb dX0_worthOfAll_27 rfl (lv_at hl 2 rfl) ?_
    refine mt_b1I hf (fun r9 hg8 hf => ?_)
    refine mt_goi (mt_runV (i := c) (As := [.int ((M (c + 6) x2.toNatClampNeg) * (M (c + 4) x2.toNatClampNeg)), .int x2]) (rest := [.int x1]) ⟨hx, hb, hml, hown, hts⟩ hI hH (c_X0_byPack l E c hc ((M (c + 6) x2.toNatClampNeg) * (M (c + 4) x2.toNatClampNeg)) x2 M u _ hg8) (cwV 2 hts gX0_worthOfAll_X0_byPack rfl rfl rfl (by decide +kernel) ⟨Nat.le_of_ble_eq_true rfl, Nat.le_of_ble_eq_true rfl⟩) (mt_T_cup hc) rfl rfl hl.1 rfl (Nat.le_of_ble_eq_true rfl) dX0_worthOfAll_28 ⟨Nat.zero_le _, Nat.zero_le _⟩) hS (fun H locs hH hS => ?_)
    refine lv_iadd hx hb dX0_worthOfAll_31 ?_
    refine mt_lti hf (fun x10 ex10 hf => ?_)
    refine lv_istore_n (lv' := [(1, .int x10), (0, .ref (E.2.1 c)), (2, .int x2)]) hx hb dX0_worthOfAll_32 rfl hl (by decide) rfl (fun ls hl => ?_)
    refine mt_ltI hf (fun x11 ex11 hf => ?_)
    refine lv_iinc (v := x11) (lv' := [(2, .int x11), (1, .int x10), (0, .ref (E.2.1 c))]) hx hb dX0_worthOfAll_33 hl (k := 2) rfl (by rw [ex11]; rfl) (by decide) rfl (fun ls hl => ?_)
    refine lv_goto (tgt := 4) hx hb dX0_worthOfAll_36 (by decide) ?_
    exact ih4 x10 x11 hf _ _ _ hH hS (lv_sub hl [2, 1, 0] rfl)
set_option maxHeartbeats 4000000 in
set_option maxRecDepth 100000 in
theorem c_X0_penceOfWeek (l : Launch) (E : mt_E) (c : Nat) (hc : mt_cup c) (M : mt_M) (u : mt_U) (r : Int32) (hf : f_X0_penceOfWeek c M = some (r)) : Met l yX0_penceOfWeek wsX0_penceOfWeek ({ frames := 3, cells := 0, slots := 0, locals := 65 } : Room) (mt_P E [.ref (E.2.1 c)] M u) (mt_Qi E r M u) 0 0 (mt_A E) := by
  refine Met.ofW (cc := cX0_penceOfWeek) (maxL := 4) (ret := (some .int)) (by decide) rfl ?_
  intro p e s mid args below meth c0 s₁ B hml hv
  obtain ⟨rfl, hI, hH⟩ := hv
  have hx := B.exec
  have hb := B.bytes
  have hr := B.returns
  have hts := atoms_spec (ws := wsX0_penceOfWeek) B.pre
  have hown : s.vm.findClass RX0 = some mid.cls := findClass_of_methodNamed B.named
  have hlocks := B.notSynchronized
  have hS : va_S (mt_A E) s.heap s.heap [] := va_S.rf
  have hl := lv_entry ([.ref (E.2.1 c)]) (n := 4) (Nat.le_of_ble_eq_true rfl)
  rw [lg_entry_eq]
  generalize (lg_sl ([.ref (E.2.1 c)]) ++ List.replicate (4 - (lg_sl ([.ref (E.2.1 c)])).length) Slot.unset).toArray = ls at hl ⊢
  have hl : lv_has ls 4 [(0, .ref (E.2.1 c))] := hl
  unfold f_X0_penceOfWeek at hf
  have kw0 := hts (.fieldLink RX0 43 "MilkTwice$Cupboard" "things" "I") (List.mem_of_getElem? (i := 1) rfl)
  have kw1 := hts (.fieldLink RX0 18 "MilkTwice$Cupboard" "use" "[I") (List.mem_of_getElem? (i := 2) rfl)
  have kw2 := hts (.fieldLink RX0 24 "MilkTwice$Cupboard" "pack" "[I") (List.mem_of_getElem? (i := 3) rfl)
  have kw3 := hts (.fieldLink RX0 21 "MilkTwice$Cupboard" "price" "[I") (List.mem_of_getElem? (i := 4) rfl)
  have hinX0 : ∀ w ∈ u_ws RX0 TX0 12, w ∈ wsX0_penceOfWeek := fun w h => List.mem_cons_of_mem _ (List.mem_append_right _ h)
  refine lv_iconst (v := 0) hx hb dX0_penceOfWeek_0 (by decide) ?_
  refine lv_istore_n (lv' := [(1, .int (0 : Int32)), (0, .ref (E.2.1 c))]) hx hb dX0_penceOfWeek_1 rfl hl (by decide) rfl (fun ls hl => ?_)
  refine lv_iconst (v := 0) hx hb dX0_penceOfWeek_2 (by decide) ?_
  refine lv_istore_n (lv' := [(2, .int (0 : Int32)), (1, .int (0 : Int32)), (0, .ref (E.2.1 c))]) hx hb dX0_penceOfWeek_3 rfl hl (by decide) rfl (fun ls hl => ?_)
  refine mt_lpI2 hf (fun (x1 : Int32) (x2 : Int32) => ∀ (H : Heap) (locs : List Loc) (ls : Array Slot), mt_H E M u H → va_S (mt_A E) s.heap H locs → lv_has ls 4 [(0, .ref (E.2.1 c)), (1, .int x1), (2, .int x2)] → W p l e (headSpec wsX0_penceOfWeek ({ frames := 3, cells := 0, slots := 0, locals := 65 } : Room)).room s mid (([.ref (E.2.1 c)] : List Value).toArray) below meth c0 H locs 0 0 (MQ below (mt_Qi E r M u) (([.ref (E.2.1 c)] : List Value).toArray) s 0 0 (mt_A E)) (F0 mid 4 ls [])) ?_ _ _ _ hH hS (lv_sub hl [2, 1, 0] rfl)
  intro k3 ih4 x1 x2 hf H locs ls hH hS hl
  refine lv_iload_n hx hb dX0_penceOfWeek_4 rfl (lv_at hl 2 rfl) ?_
  refine lv_aload_n hx hb dX0_penceOfWeek_5 rfl (lv_at hl 0 rfl) ?_
  refine mt_geti (C := RX0) (T := TX0) (N := 12) hx hb hts hinX0 hown hI hH (mt_T_cup hc) rfl 8 (by decide) kw0 rfl rfl dX0_penceOfWeek_6 ?_
  refine lv_icmp_ge (tgt := 53) hx hb dX0_penceOfWeek_9 (by decide) (fun c5 => ?_) (fun c5 => ?_)
  · have hf := mt_ifT c5 hf
    refine lv_iload_n hx hb dX0_penceOfWeek_53 rfl (lv_at hl 1 rfl) ?_
    have i1 := mt_so1 hf
    subst i1
    exact mt_iret hx hb hr hI hH hS hlocks dX0_penceOfWeek_54
  · have hf := mt_ifF c5 hf
    refine lv_aload_n hx hb dX0_penceOfWeek_12 rfl (lv_at hl 0 rfl) ?_
    refine lv_aload_n hx hb dX0_penceOfWeek_13 rfl (lv_at hl 0 rfl) ?_
    refine mt_getr (C := RX0) (T := TX0) (N := 12) hx hb hts hinX0 hown hI hH (mt_T_cup hc) rfl 3 (by decide) kw1 rfl rfl dX0_penceOfWeek_14 ?_
    refine lv_iload_n hx hb dX0_penceOfWeek_17 rfl (lv_at hl 2 rfl) ?_
    refine mt_ciI hf (fun q6 hf => ?_)
    refine mt_iald hx hb hI hH (mt_T_cupA hc 3 (by decide) (by decide)) q6 dX0_penceOfWeek_18 ?_
    refine lv_bipush (v := 7) hx hb dX0_penceOfWeek_19 (by decide) ?_
    refine lv_imul hx hb dX0_penceOfWeek_21 ?_
    refine lv_aload_n hx hb dX0_penceOfWeek_22 rfl (lv_at hl 0 rfl) ?_
    refine mt_getr (C := RX0) (T := TX0) (N := 12) hx hb hts hinX0 hown hI hH (mt_T_cup hc) rfl 5 (by decide) kw2 rfl rfl dX0_penceOfWeek_23 ?_
    refine lv_iload_n hx hb dX0_penceOfWeek_26 rfl (lv_at hl 2 rfl) ?_
    refine mt_ciI hf (fun q7 hf => ?_)
    refine mt_iald hx hb hI hH (mt_T_cupA hc 5 (by decide) (by decide)) q7 dX0_penceOfWeek_27 ?_
    refine lv_iadd hx hb dX0_penceOfWeek_28 ?_
    refine lv_iconst (v := 1) hx hb dX0_penceOfWeek_29 (by decide) ?_
    refine lv_isub hx hb dX0_penceOfWeek_30 ?_
    refine lv_iload_n hx hb dX0_penceOfWeek_31 rfl (lv_at hl 2 rfl) ?_
    refine mt_b1I hf (fun r9 hg8 hf => ?_)
    refine mt_goi (mt_runV (i := c) (As := [.int ((((M (c + 3) x2.toNatClampNeg) * (7 : Int32)) + (M (c + 5) x2.toNatClampNeg)) - (1 : Int32)), .int x2]) (rest := []) ⟨hx, hb, hml, hown, hts⟩ hI hH (c_X0_byPack l E c hc ((((M (c + 3) x2.toNatClampNeg) * (7 : Int32)) + (M (c + 5) x2.toNatClampNeg)) - (1 : Int32)) x2 M u _ hg8) (cwV 2 hts gX0_penceOfWeek_X0_byPack rfl rfl rfl (by decide +kernel) ⟨Nat.le_of_ble_eq_true rfl, Nat.le_of_ble_eq_true rfl⟩) (mt_T_cup hc) rfl rfl hl.1 rfl (Nat.le_of_ble_eq_true rfl) dX0_penceOfWeek_32 ⟨Nat.zero_le _, Nat.zero_le _⟩) hS (fun H locs hH hS => ?_)
    refine lv_istore_n (lv' := [(3, .int r9), (0, .ref (E.2.1 c)), (1, .int x1), (2, .int x2)]) hx hb dX0_penceOfWeek_35 rfl hl (by decide) rfl (fun ls hl => ?_)
    refine lv_iload_n hx hb dX0_penceOfWeek_36 rfl (lv_at hl 2 rfl) ?_
    refine lv_iload_n hx hb dX0_penceOfWeek_37 rfl (lv_at hl 0 rfl) ?_
    refine lv_aload_n hx hb dX0_penceOfWeek_38 rfl (lv_at hl 1 rfl) ?_
    refine mt_getr (C := RX0) (T := TX0) (N := 12) hx hb hts hinX0 hown hI hH (mt_T_cup hc) rfl 4 (by decide) kw3 rfl rfl dX0_penceOfWeek_39 ?_
    refine lv_iload_n hx hb dX0_penceOfWeek_42 rfl (lv_at hl 3 rfl) ?_
    refine mt_ciI hf (fun q10 hf => ?_)
    refine mt_iald hx hb hI hH (mt_T_cupA hc 4 (by decide) (by decide)) q10 dX0_penceOfWeek_43 ?_
    refine lv_imul hx hb dX0_penceOfWeek_44 ?_
    refine lv_iadd hx hb dX0_penceOfWeek_45 ?_
    refine mt_lti hf (fun x11 ex11 hf => ?_)
    refine lv_istore_n (lv' := [(1, .int x11), (3, .int r9), (0, .ref (E.2.1 c)), (2, .int x2)]) hx hb dX0_penceOfWeek_46 rfl hl (by decide) rfl (fun ls hl => ?_)
    refine mt_ltI hf (fun x12 ex12 hf => ?_)
    refine lv_iinc (v := x12) (lv' := [(2, .int x12), (1, .int x11), (3, .int r9), (0, .ref (E.2.1 c))]) hx hb dX0_penceOfWeek_47 hl (k := 3) rfl (by rw [ex12]; rfl) (by decide) rfl (fun ls hl => ?_)
    refine lv_goto (tgt := 4) hx hb dX0_penceOfWeek_50 (by decide) ?_
    exact ih4 x11 x12 hf _ _ _ hH hS (lv_sub hl [3, 1, 0] rfl)
set_option maxHeartbeats 4000000 in
set_option maxRecDepth 100000 in
theorem c_X0_areAlike (l : Launch) (E : mt_E) (c : Nat) (hc : mt_cup c) (a1 : Int32) (a2 : Int32) (M : mt_M) (u : mt_U) (r : Int32) (hf : f_X0_areAlike c a1 a2 M = some (r)) : Met l yX0_areAlike wsX0_areAlike ({ frames := 1, cells := 0, slots := 0, locals := 21 } : Room) (mt_P E [.ref (E.2.1 c), .int a1, .int a2] M u) (mt_Qi E r M u) 0 0 (mt_A E) := by
  refine Met.ofW (cc := cX0_areAlike) (maxL := 3) (ret := (some .boolean)) (by decide) rfl ?_
  intro p e s mid args below meth c0 s₁ B hml hv
  obtain ⟨rfl, hI, hH⟩ := hv
  have hx := B.exec
  have hb := B.bytes
  have hr := B.returns
  have hts := atoms_spec (ws := wsX0_areAlike) B.pre
  have hown : s.vm.findClass RX0 = some mid.cls := findClass_of_methodNamed B.named
  have hlocks := B.notSynchronized
  have hS : va_S (mt_A E) s.heap s.heap [] := va_S.rf
  have hl := lv_entry ([.ref (E.2.1 c), .int a1, .int a2]) (n := 3) (Nat.le_of_ble_eq_true rfl)
  rw [lg_entry_eq]
  generalize (lg_sl ([.ref (E.2.1 c), .int a1, .int a2]) ++ List.replicate (3 - (lg_sl ([.ref (E.2.1 c), .int a1, .int a2])).length) Slot.unset).toArray = ls at hl ⊢
  have hl : lv_has ls 3 [(0, .ref (E.2.1 c)), (1, .int a1), (2, .int a2)] := hl
  unfold f_X0_areAlike at hf
  have kw0 := hts (.fieldLink RX0 9 "MilkTwice$Cupboard" "kind" "[I") (List.mem_of_getElem? (i := 1) rfl)
  have kw1 := hts (.fieldLink RX0 15 "MilkTwice$Cupboard" "figure" "[I") (List.mem_of_getElem? (i := 2) rfl)
  have kw2 := hts (.methodLink RX0 131 Lib.Math.abs.name) (List.mem_of_getElem? (i := 3) rfl)
  have kw3 := hts (.static Lib.Math.abs.name) (List.mem_of_getElem? (i := 4) rfl)
  have kw4 := hts (.initialized "java/lang/Math") (List.mem_of_getElem? (i := 5) rfl)
  have kw5 := hts (.code Lib.Math.abs.name Lib.Math.abs.code 1 (some .int)) (List.mem_of_getElem? (i := 6) rfl)
  have hinX0 : ∀ w ∈ u_ws RX0 TX0 12, w ∈ wsX0_areAlike := fun w h => List.mem_cons_of_mem _ (List.mem_append_right _ h)
  refine lv_aload_n hx hb dX0_areAlike_0 rfl (lv_at hl 0 rfl) ?_
  refine mt_getr (C := RX0) (T := TX0) (N := 12) hx hb hts hinX0 hown hI hH (mt_T_cup hc) rfl 1 (by decide) kw0 rfl rfl dX0_areAlike_1 ?_
  refine lv_iload_n hx hb dX0_areAlike_4 rfl (lv_at hl 1 rfl) ?_
  refine mt_ciI hf (fun q1 hf => ?_)
  refine mt_iald hx hb hI hH (mt_T_cupA hc 1 (by decide) (by decide)) q1 dX0_areAlike_5 ?_
  refine lv_aload_n hx hb dX0_areAlike_6 rfl (lv_at hl 0 rfl) ?_
  refine mt_getr (C := RX0) (T := TX0) (N := 12) hx hb hts hinX0 hown hI hH (mt_T_cup hc) rfl 1 (by decide) kw0 rfl rfl dX0_areAlike_7 ?_
  refine lv_iload_n hx hb dX0_areAlike_10 rfl (lv_at hl 2 rfl) ?_
  refine mt_ciI hf (fun q2 hf => ?_)
  refine mt_iald hx hb hI hH (mt_T_cupA hc 1 (by decide) (by decide)) q2 dX0_areAlike_11 ?_
  refine lv_icmp_ne (tgt := 39) hx hb dX0_areAlike_12 (by decide) (fun c3 => ?_) (fun c3 => ?_)
  · have hf := mt_ifF c3 hf
    refine lv_iconst (v := 0) hx hb dX0_areAlike_39 (by decide) ?_
    have i1 := mt_so1 hf
    subst i1
    exact mt_zret hx hb hr hI hH hS (by decide) hlocks dX0_areAlike_40
  · have hf := mt_ifT c3 hf
    refine lv_aload_n hx hb dX0_areAlike_15 rfl (lv_at hl 0 rfl) ?_
    refine mt_getr (C := RX0) (T := TX0) (N := 12) hx hb hts hinX0 hown hI hH (mt_T_cup hc) rfl 2 (by decide) kw1 rfl rfl dX0_areAlike_16 ?_
    refine lv_iload_n hx hb dX0_areAlike_19 rfl (lv_at hl 1 rfl) ?_
    refine mt_ciI hf (fun q4 hf => ?_)
    refine mt_iald hx hb hI hH (mt_T_cupA hc 2 (by decide) (by decide)) q4 dX0_areAlike_20 ?_
    refine lv_aload_n hx hb dX0_areAlike_21 rfl (lv_at hl 0 rfl) ?_
    refine mt_getr (C := RX0) (T := TX0) (N := 12) hx hb hts hinX0 hown hI hH (mt_T_cup hc) rfl 2 (by decide) kw1 rfl rfl dX0_areAlike_22 ?_
    refine lv_iload_n hx hb dX0_areAlike_25 rfl (lv_at hl 2 rfl) ?_
    refine mt_ciI hf (fun q5 hf => ?_)
    refine mt_iald hx hb hI hH (mt_T_cupA hc 2 (by decide) (by decide)) q5 dX0_areAlike_26 ?_
    refine lv_isub hx hb dX0_areAlike_27 ?_
    refine va_mabs hx hb (hml.trans hl.1.symm) hown kw2 kw3 kw4 kw5 (Nat.le_of_ble_eq_true rfl) (Nat.le_of_ble_eq_true rfl) (Nat.zero_le _) (Nat.zero_le _) dX0_areAlike_28 ?_
    refine mt_lti hf (fun x6 ex6 hf => ?_)
    refine lv_iconst (v := 1) hx hb dX0_areAlike_31 (by decide) ?_
    refine lv_icmp_gt (tgt := 39) hx hb dX0_areAlike_32 (by decide) (fun c7 => ?_) (fun c7 => ?_)
    · have hf := mt_ifT c7 hf
      refine lv_iconst (v := 0) hx hb dX0_areAlike_39 (by decide) ?_
      have i1 := mt_so1 hf
      subst i1
      exact mt_zret hx hb hr hI hH hS (by decide) hlocks dX0_areAlike_40
    · have hf := mt_ifF c7 hf
      refine lv_iconst (v := 1) hx hb dX0_areAlike_35 (by decide) ?_
      refine lv_goto (tgt := 40) hx hb dX0_areAlike_36 (by decide) ?_
      have i1 := mt_so1 hf
      subst i1
      exact mt_zret hx hb hr hI hH hS (by decide) hlocks dX0_areAlike_40
set_option maxHeartbeats 4000000 in
set_option maxRecDepth 100000 in
theorem c_X0_alikeTwos (l : Launch) (E : mt_E) (c : Nat) (hc : mt_cup c) (M : mt_M) (u : mt_U) (r : Int32) (hf : f_X0_alikeTwos c M = some (r)) : Met l yX0_alikeTwos wsX0_alikeTwos ({ frames := 2, cells := 0, slots := 0, locals := 43 } : Room) (mt_P E [.ref (E.2.1 c)] M u) (mt_Qi E r M u) 0 0 (mt_A E) := by
  refine Met.ofW (cc := cX0_alikeTwos) (maxL := 4) (ret := (some .int)) (by decide) rfl ?_
  intro p e s mid args below meth c0 s₁ B hml hv
  obtain ⟨rfl, hI, hH⟩ := hv
  have hx := B.exec
  have hb := B.bytes
  have hr := B.returns
  have hts := atoms_spec (ws := wsX0_alikeTwos) B.pre
  have hown : s.vm.findClass RX0 = some mid.cls := findClass_of_methodNamed B.named
  have hlocks := B.notSynchronized
  have hS : va_S (mt_A E) s.heap s.heap [] := va_S.rf
  have hl := lv_entry ([.ref (E.2.1 c)]) (n := 4) (Nat.le_of_ble_eq_true rfl)
  rw [lg_entry_eq]
  generalize (lg_sl ([.ref (E.2.1 c)]) ++ List.replicate (4 - (lg_sl ([.ref (E.2.1 c)])).length) Slot.unset).toArray = ls at hl ⊢
  have hl : lv_has ls 4 [(0, .ref (E.2.1 c))] := hl
  unfold f_X0_alikeTwos at hf
  have kw0 := hts (.fieldLink RX0 43 "MilkTwice$Cupboard" "things" "I") (List.mem_of_getElem? (i := 1) rfl)
  have hinX0 : ∀ w ∈ u_ws RX0 TX0 12, w ∈ wsX0_alikeTwos := fun w h => List.mem_cons_of_mem _ (List.mem_append_right _ h)
  refine lv_iconst (v := 0) hx hb dX0_alikeTwos_0 (by decide) ?_
  refine lv_istore_n (lv' := [(1, .int (0 : Int32)), (0, .ref (E.2.1 c))]) hx hb dX0_alikeTwos_1 rfl hl (by decide) rfl (fun ls hl => ?_)
  refine lv_iconst (v := 0) hx hb dX0_alikeTwos_2 (by decide) ?_
  refine lv_istore_n (lv' := [(2, .int (0 : Int32)), (1, .int (0 : Int32)), (0, .ref (E.2.1 c))]) hx hb dX0_alikeTwos_3 rfl hl (by decide) rfl (fun ls hl => ?_)
  refine mt_lpI2 hf (fun (x1 : Int32) (x2 : Int32) => ∀ (H : Heap) (locs : List Loc) (ls : Array Slot), mt_H E M u H → va_S (mt_A E) s.heap H locs → lv_has ls 4 [(0, .ref (E.2.1 c)), (1, .int x1), (2, .int x2)] → W p l e (headSpec wsX0_alikeTwos ({ frames := 2, cells := 0, slots := 0, locals := 43 } : Room)).room s mid (([.ref (E.2.1 c)] : List Value).toArray) below meth c0 H locs 0 0 (MQ below (mt_Qi E r M u) (([.ref (E.2.1 c)] : List Value).toArray) s 0 0 (mt_A E)) (F0 mid 4 ls [])) ?_ _ _ _ hH hS (lv_sub hl [2, 1, 0] rfl)
  intro k3 ih4 x1 x2 hf H locs ls hH hS hl
  refine lv_iload_n hx hb dX0_alikeTwos_4 rfl (lv_at hl 2 rfl) ?_
  refine lv_aload_n hx hb dX0_alikeTwos_5 rfl (lv_at hl 0 rfl) ?_
  refine mt_geti (C := RX0) (T := TX0) (N := 12) hx hb hts hinX0 hown hI hH (mt_T_cup hc) rfl 8 (by decide) kw0 rfl rfl dX0_alikeTwos_6 ?_
  refine lv_icmp_ge (tgt := 53) hx hb dX0_alikeTwos_9 (by decide) (fun c5 => ?_) (fun c5 => ?_)
  · have hf := mt_ifT c5 hf
    refine lv_iload_n hx hb dX0_alikeTwos_53 rfl (lv_at hl 1 rfl) ?_
    have i1 := mt_so1 hf
    subst i1
    exact mt_iret hx hb hr hI hH hS hlocks dX0_alikeTwos_54
  · have hf := mt_ifF c5 hf
    refine lv_iload_n hx hb dX0_alikeTwos_12 rfl (lv_at hl 2 rfl) ?_
    refine lv_iconst (v := 1) hx hb dX0_alikeTwos_13 (by decide) ?_
    refine lv_iadd hx hb dX0_alikeTwos_14 ?_
    refine mt_lti hf (fun x6 ex6 hf => ?_)
    refine lv_istore_n (lv' := [(3, .int x6), (0, .ref (E.2.1 c)), (1, .int x1), (2, .int x2)]) hx hb dX0_alikeTwos_15 rfl hl (by decide) rfl (fun ls hl => ?_)
    refine mt_lpI2 hf (fun (x7 : Int32) (x8 : Int32) => ∀ (H : Heap) (locs : List Loc) (ls : Array Slot), mt_H E M u H → va_S (mt_A E) s.heap H locs → lv_has ls 4 [(0, .ref (E.2.1 c)), (1, .int x7), (2, .int x2), (3, .int x8)] → W p l e (headSpec wsX0_alikeTwos ({ frames := 2, cells := 0, slots := 0, locals := 43 } : Room)).room s mid (([.ref (E.2.1 c)] : List Value).toArray) below meth c0 H locs 0 0 (MQ below (mt_Qi E r M u) (([.ref (E.2.1 c)] : List Value).toArray) s 0 0 (mt_A E)) (F0 mid 16 ls [])) ?_ _ _ _ hH hS (lv_sub hl [1, 2, 3, 0] rfl)
    intro k9 ih10 x7 x8 hf H locs ls hH hS hl
    refine lv_iload_n hx hb dX0_alikeTwos_16 rfl (lv_at hl 3 rfl) ?_
    refine lv_aload_n hx hb dX0_alikeTwos_17 rfl (lv_at hl 0 rfl) ?_
    refine mt_geti (C := RX0) (T := TX0) (N := 12) hx hb hts hinX0 hown hI hH (mt_T_cup hc) rfl 8 (by decide) kw0 rfl rfl dX0_alikeTwos_18 ?_
    refine lv_icmp_ge (tgt := 47) hx hb dX0_alikeTwos_21 (by decide) (fun c11 => ?_) (fun c11 => ?_)
    · have hf := mt_ifT c11 hf
      refine mt_ltI hf (fun x12 ex12 hf => ?_)
      refine lv_iinc (v := x12) (lv' := [(2, .int x12), (0, .ref (E.2.1 c)), (1, .int x7), (3, .int x8)]) hx hb dX0_alikeTwos_47 hl (k := 2) rfl (by rw [ex12]; rfl) (by decide) rfl (fun ls hl => ?_)
      refine lv_goto (tgt := 4) hx hb dX0_alikeTwos_50 (by decide) ?_
      exact ih4 x7 x12 hf _ _ _ hH hS (lv_sub hl [1, 2, 0] rfl)
    · have hf := mt_ifF c11 hf
      refine lv_iload_n hx hb dX0_alikeTwos_24 rfl (lv_at hl 1 rfl) ?_
      refine lv_aload_n hx hb dX0_alikeTwos_25 rfl (lv_at hl 0 rfl) ?_
      refine lv_iload_n hx hb dX0_alikeTwos_26 rfl (lv_at hl 2 rfl) ?_
      refine lv_iload_n hx hb dX0_alikeTwos_27 rfl (lv_at hl 3 rfl) ?_
      refine mt_b1I hf (fun r14 hg13 hf => ?_)
      refine mt_goi (mt_runV (i := c) (As := [.int x2, .int x8]) (rest := [.int x7]) ⟨hx, hb, hml, hown, hts⟩ hI hH (c_X0_areAlike l E c hc x2 x8 M u _ hg13) (cwV 2 hts gX0_alikeTwos_X0_areAlike rfl rfl rfl (by decide +kernel) ⟨Nat.le_of_ble_eq_true rfl, Nat.le_of_ble_eq_true rfl⟩) (mt_T_cup hc) rfl rfl hl.1 rfl (Nat.le_of_ble_eq_true rfl) dX0_alikeTwos_28 ⟨Nat.zero_le _, Nat.zero_le _⟩) hS (fun H locs hH hS => ?_)
      refine mt_jn1 hf (fun (v15 : Int32) => ∀ (H : Heap) (locs : List Loc) (ls : Array Slot), mt_H E M u H → va_S (mt_A E) s.heap H locs → lv_has ls 4 [(0, .ref (E.2.1 c)), (2, .int x2), (3, .int x8)] → W p l e (headSpec wsX0_alikeTwos ({ frames := 2, cells := 0, slots := 0, locals := 43 } : Room)).room s mid (([.ref (E.2.1 c)] : List Value).toArray) below meth c0 H locs 0 0 (MQ below (mt_Qi E r M u) (([.ref (E.2.1 c)] : List Value).toArray) s 0 0 (mt_A E)) (F0 mid 39 ls [.int v15, .int x7])) ?_ ?_
      · intro v15 hf H locs ls hH hS hl
        refine lv_iadd hx hb dX0_alikeTwos_39 ?_
        refine mt_lti hf (fun x18 ex18 hf => ?_)
        refine lv_istore_n (lv' := [(1, .int x18), (0, .ref (E.2.1 c)), (2, .int x2), (3, .int x8)]) hx hb dX0_alikeTwos_40 rfl hl (by decide) rfl (fun ls hl => ?_)
        refine mt_ltI hf (fun x19 ex19 hf => ?_)
        refine lv_iinc (v := x19) (lv' := [(3, .int x19), (1, .int x18), (0, .ref (E.2.1 c)), (2, .int x2)]) hx hb dX0_alikeTwos_41 hl (k := 3) rfl (by rw [ex19]; rfl) (by decide) rfl (fun ls hl => ?_)
        refine lv_goto (tgt := 16) hx hb dX0_alikeTwos_44 (by decide) ?_
        exact ih10 x18 x19 hf _ _ _ hH hS (lv_sub hl [2, 1, 3, 0] rfl)
      · intro j16 hj17 hf
        refine lv_if_eq (tgt := 38) hx hb dX0_alikeTwos_31 (by decide) (fun c20 => ?_) (fun c20 => ?_)
        · have hf := mt_ifT c20 hf
          refine lv_iconst (v := 0) hx hb dX0_alikeTwos_38 (by decide) ?_
          exact hj17 (0 : Int32) hf _ _ _ hH hS (lv_sub hl [0, 2, 3] rfl)
        · have hf := mt_ifF c20 hf
          refine lv_iconst (v := 1) hx hb dX0_alikeTwos_34 (by decide) ?_
          refine lv_goto (tgt := 39) hx hb dX0_alikeTwos_35 (by decide) ?_
          exact hj17 (1 : Int32) hf _ _ _ hH hS (lv_sub hl [0, 2, 3] rfl)
set_option maxHeartbeats 4000000 in
set_option maxRecDepth 100000 in
theorem c_X0_hangTogether (l : Launch) (E : mt_E) (c : Nat) (hc : mt_cup c) (a1 : Int32) (a2 : Int32) (M : mt_M) (u : mt_U) (M' : mt_M) (hf : f_X0_hangTogether c a1 a2 M = some (M')) : Met l yX0_hangTogether wsX0_hangTogether ({ frames := 0, cells := 0, slots := 0, locals := 0 } : Room) (mt_P E [.ref (E.2.1 c), .int a1, .int a2] M u) (mt_Qv E M' u) 0 0 (mt_A E) := by
  refine Met.ofW (cc := cX0_hangTogether) (maxL := 4) (ret := none) (by decide) rfl ?_
  intro p e s mid args below meth c0 s₁ B hml hv
  obtain ⟨rfl, hI, hH⟩ := hv
  have hx := B.exec
  have hb := B.bytes
  have hr := B.returns
  have hts := atoms_spec (ws := wsX0_hangTogether) B.pre
  have hown : s.vm.findClass RX0 = some mid.cls := findClass_of_methodNamed B.named
  have hlocks := B.notSynchronized
  have hS : va_S (mt_A E) s.heap s.heap [] := va_S.rf
  have hl := lv_entry ([.ref (E.2.1 c), .int a1, .int a2]) (n := 4) (Nat.le_of_ble_eq_true rfl)
  rw [lg_entry_eq]
  generalize (lg_sl ([.ref (E.2.1 c), .int a1, .int a2]) ++ List.replicate (4 - (lg_sl ([.ref (E.2.1 c), .int a1, .int a2])).length) Slot.unset).toArray = ls at hl ⊢
  have hl : lv_has ls 4 [(0, .ref (E.2.1 c)), (1, .int a1), (2, .int a2)] := hl
  unfold f_X0_hangTogether at hf
  have kw0 := hts (.fieldLink RX0 43 "MilkTwice$Cupboard" "things" "I") (List.mem_of_getElem? (i := 1) rfl)
  have kw1 := hts (.fieldLink RX0 30 "MilkTwice$Cupboard" "group" "[I") (List.mem_of_getElem? (i := 2) rfl)
  have hinX0 : ∀ w ∈ u_ws RX0 TX0 12, w ∈ wsX0_hangTogether := fun w h => List.mem_cons_of_mem _ (List.mem_append_right _ h)
  refine lv_iconst (v := 0) hx hb dX0_hangTogether_0 (by decide) ?_
  refine lv_istore_n (lv' := [(3, .int (0 : Int32)), (0, .ref (E.2.1 c)), (1, .int a1), (2, .int a2)]) hx hb dX0_hangTogether_1 rfl hl (by decide) rfl (fun ls hl => ?_)
  refine mt_lpI2 hf (fun (x1 : Int32) (M2 : mt_M) => ∀ (H : Heap) (locs : List Loc) (ls : Array Slot), mt_H E M2 u H → va_S (mt_A E) s.heap H locs → lv_has ls 4 [(0, .ref (E.2.1 c)), (1, .int a1), (2, .int a2), (3, .int x1)] → W p l e (headSpec wsX0_hangTogether ({ frames := 0, cells := 0, slots := 0, locals := 0 } : Room)).room s mid (([.ref (E.2.1 c), .int a1, .int a2] : List Value).toArray) below meth c0 H locs 0 0 (MQ below (mt_Qv E M' u) (([.ref (E.2.1 c), .int a1, .int a2] : List Value).toArray) s 0 0 (mt_A E)) (F0 mid 2 ls [])) ?_ _ _ _ hH hS (lv_sub hl [1, 2, 3, 0] rfl)
  intro k3 ih4 x1 M2 hf H locs ls hH hS hl
  refine lv_iload_n hx hb dX0_hangTogether_2 rfl (lv_at hl 3 rfl) ?_
  refine lv_aload_n hx hb dX0_hangTogether_3 rfl (lv_at hl 0 rfl) ?_
  refine mt_geti (C := RX0) (T := TX0) (N := 12) hx hb hts hinX0 hown hI hH (mt_T_cup hc) rfl 8 (by decide) kw0 rfl rfl dX0_hangTogether_4 ?_
  refine lv_icmp_ge (tgt := 33) hx hb dX0_hangTogether_7 (by decide) (fun c5 => ?_) (fun c5 => ?_)
  · have hf := mt_ifT c5 hf
    have i1 := mt_so1 hf
    subst i1
    exact mt_vret hx hb hr hI hH hS hlocks dX0_hangTogether_33
  · have hf := mt_ifF c5 hf
    refine lv_aload_n hx hb dX0_hangTogether_10 rfl (lv_at hl 0 rfl) ?_
    refine mt_getr (C := RX0) (T := TX0) (N := 12) hx hb hts hinX0 hown hI hH (mt_T_cup hc) rfl 7 (by decide) kw1 rfl rfl dX0_hangTogether_11 ?_
    refine lv_iload_n hx hb dX0_hangTogether_14 rfl (lv_at hl 3 rfl) ?_
    refine mt_ciI hf (fun q6 hf => ?_)
    refine mt_iald hx hb hI hH (mt_T_cupA hc 7 (by decide) (by decide)) q6 dX0_hangTogether_15 ?_
    refine lv_iload_n hx hb dX0_hangTogether_16 rfl (lv_at hl 2 rfl) ?_
    refine mt_jn1 hf (fun (M7 : mt_M) => ∀ (H : Heap) (locs : List Loc) (ls : Array Slot), mt_H E M7 u H → va_S (mt_A E) s.heap H locs → lv_has ls 4 [(0, .ref (E.2.1 c)), (1, .int a1), (2, .int a2), (3, .int x1)] → W p l e (headSpec wsX0_hangTogether ({ frames := 0, cells := 0, slots := 0, locals := 0 } : Room)).room s mid (([.ref (E.2.1 c), .int a1, .int a2] : List Value).toArray) below meth c0 H locs 0 0 (MQ below (mt_Qv E M' u) (([.ref (E.2.1 c), .int a1, .int a2] : List Value).toArray) s 0 0 (mt_A E)) (F0 mid 27 ls [])) ?_ ?_
    · intro M7 hf H locs ls hH hS hl
      refine mt_ltI hf (fun x10 ex10 hf => ?_)
      refine lv_iinc (v := x10) (lv' := [(3, .int x10), (0, .ref (E.2.1 c)), (1, .int a1), (2, .int a2)]) hx hb dX0_hangTogether_27 hl (k := 3) rfl (by rw [ex10]; rfl) (by decide) rfl (fun ls hl => ?_)
      refine lv_goto (tgt := 2) hx hb dX0_hangTogether_30 (by decide) ?_
      exact ih4 x10 M7 hf _ _ _ hH hS (lv_sub hl [1, 2, 3, 0] rfl)
    · intro j8 hj9 hf
      refine lv_icmp_ne (tgt := 27) hx hb dX0_hangTogether_17 (by decide) (fun c11 => ?_) (fun c11 => ?_)
      · have hf := mt_ifF c11 hf
        exact hj9 M2 hf _ _ _ hH hS (lv_sub hl [0, 1, 2, 3] rfl)
      · have hf := mt_ifT c11 hf
        refine lv_aload_n hx hb dX0_hangTogether_20 rfl (lv_at hl 0 rfl) ?_
        refine mt_getr (C := RX0) (T := TX0) (N := 12) hx hb hts hinX0 hown hI hH (mt_T_cup hc) rfl 7 (by decide) kw1 rfl rfl dX0_hangTogether_21 ?_
        refine lv_iload_n hx hb dX0_hangTogether_24 rfl (lv_at hl 3 rfl) ?_
        refine lv_iload_n hx hb dX0_hangTogether_25 rfl (lv_at hl 1 rfl) ?_
        refine mt_ciI hf (fun q13 hf => ?_)
        refine mt_iast hx hb hI hH hS (mt_T_cupA hc 7 (by decide) (by decide)) q13 dX0_hangTogether_26 (fun H locs hH hS => ?_)
        refine mt_ltI hf (fun M12 eM12 hf => ?_)
        rw [← eM12] at hH
        exact hj9 M12 hf _ _ _ hH hS (lv_sub hl [0, 1, 2, 3] rfl)
set_option maxHeartbeats 4000000 in
set_option maxRecDepth 100000 in
theorem c_X0_alikeLinks (l : Launch) (E : mt_E) (c : Nat) (hc : mt_cup c) (M : mt_M) (u : mt_U) (r : Int32) (M' : mt_M) (hf : f_X0_alikeLinks c M = some (r, M')) : Met l yX0_alikeLinks wsX0_alikeLinks ({ frames := 2, cells := 0, slots := 0, locals := 43 } : Room) (mt_P E [.ref (E.2.1 c)] M u) (mt_Qi E r M' u) 0 0 (mt_A E) := by
  refine Met.ofW (cc := cX0_alikeLinks) (maxL := 4) (ret := (some .int)) (by decide) rfl ?_
  intro p e s mid args below meth c0 s₁ B hml hv
  obtain ⟨rfl, hI, hH⟩ := hv
  have hx := B.exec
  have hb := B.bytes
  have hr := B.returns
  have hts := atoms_spec (ws := wsX0_alikeLinks) B.pre
  have hown : s.vm.findClass RX0 = some mid.cls := findClass_of_methodNamed B.named
  have hlocks := B.notSynchronized
  have hS : va_S (mt_A E) s.heap s.heap [] := va_S.rf
  have hl := lv_entry ([.ref (E.2.1 c)]) (n := 4) (Nat.le_of_ble_eq_true rfl)
  rw [lg_entry_eq]
  generalize (lg_sl ([.ref (E.2.1 c)]) ++ List.replicate (4 - (lg_sl ([.ref (E.2.1 c)])).length) Slot.unset).toArray = ls at hl ⊢
  have hl : lv_has ls 4 [(0, .ref (E.2.1 c))] := hl
  unfold f_X0_alikeLinks at hf
  have kw0 := hts (.fieldLink RX0 43 "MilkTwice$Cupboard" "things" "I") (List.mem_of_getElem? (i := 1) rfl)
  have kw1 := hts (.fieldLink RX0 30 "MilkTwice$Cupboard" "group" "[I") (List.mem_of_getElem? (i := 2) rfl)
  have hinX0 : ∀ w ∈ u_ws RX0 TX0 12, w ∈ wsX0_alikeLinks := fun w h => List.mem_cons_of_mem _ (List.mem_append_right _ h)
  refine lv_iconst (v := 0) hx hb dX0_alikeLinks_0 (by decide) ?_
  refine lv_istore_n (lv' := [(1, .int (0 : Int32)), (0, .ref (E.2.1 c))]) hx hb dX0_alikeLinks_1 rfl hl (by decide) rfl (fun ls hl => ?_)
  refine mt_lpI2 hf (fun (x1 : Int32) (M2 : mt_M) => ∀ (H : Heap) (locs : List Loc) (ls : Array Slot), mt_H E M2 u H → va_S (mt_A E) s.heap H locs → lv_has ls 4 [(0, .ref (E.2.1 c)), (1, .int x1)] → W p l e (headSpec wsX0_alikeLinks ({ frames := 2, cells := 0, slots := 0, locals := 43 } : Room)).room s mid (([.ref (E.2.1 c)] : List Value).toArray) below meth c0 H locs 0 0 (MQ below (mt_Qi E r M' u) (([.ref (E.2.1 c)] : List Value).toArray) s 0 0 (mt_A E)) (F0 mid 2 ls [])) ?_ _ _ _ hH hS (lv_sub hl [1, 0] rfl)
  intro k3 ih4 x1 M2 hf H locs ls hH hS hl
  refine lv_iload_n hx hb dX0_alikeLinks_2 rfl (lv_at hl 1 rfl) ?_
  refine lv_aload_n hx hb dX0_alikeLinks_3 rfl (lv_at hl 0 rfl) ?_
  refine mt_geti (C := RX0) (T := TX0) (N := 12) hx hb hts hinX0 hown hI hH (mt_T_cup hc) rfl 8 (by decide) kw0 rfl rfl dX0_alikeLinks_4 ?_
  refine lv_icmp_ge (tgt := 23) hx hb dX0_alikeLinks_7 (by decide) (fun c5 => ?_) (fun c5 => ?_)
  · have hf := mt_ifT c5 hf
    refine lv_iconst (v := 0) hx hb dX0_alikeLinks_23 (by decide) ?_
    refine lv_istore_n (lv' := [(1, .int (0 : Int32)), (0, .ref (E.2.1 c))]) hx hb dX0_alikeLinks_24 rfl hl (by decide) rfl (fun ls hl => ?_)
    refine lv_iconst (v := 0) hx hb dX0_alikeLinks_25 (by decide) ?_
    refine lv_istore_n (lv' := [(2, .int (0 : Int32)), (1, .int (0 : Int32)), (0, .ref (E.2.1 c))]) hx hb dX0_alikeLinks_26 rfl hl (by decide) rfl (fun ls hl => ?_)
    refine mt_lpI3 hf (fun (x6 : Int32) (x7 : Int32) (M8 : mt_M) => ∀ (H : Heap) (locs : List Loc) (ls : Array Slot), mt_H E M8 u H → va_S (mt_A E) s.heap H locs → lv_has ls 4 [(0, .ref (E.2.1 c)), (1, .int x6), (2, .int x7)] → W p l e (headSpec wsX0_alikeLinks ({ frames := 2, cells := 0, slots := 0, locals := 43 } : Room)).room s mid (([.ref (E.2.1 c)] : List Value).toArray) below meth c0 H locs 0 0 (MQ below (mt_Qi E r M' u) (([.ref (E.2.1 c)] : List Value).toArray) s 0 0 (mt_A E)) (F0 mid 27 ls [])) ?_ _ _ _ hH hS (lv_sub hl [2, 1, 0] rfl)
    intro k9 ih10 x6 x7 M8 hf H locs ls hH hS hl
    refine lv_iload_n hx hb dX0_alikeLinks_27 rfl (lv_at hl 2 rfl) ?_
    refine lv_aload_n hx hb dX0_alikeLinks_28 rfl (lv_at hl 0 rfl) ?_
    refine mt_geti (C := RX0) (T := TX0) (N := 12) hx hb hts hinX0 hown hI hH (mt_T_cup hc) rfl 8 (by decide) kw0 rfl rfl dX0_alikeLinks_29 ?_
    refine lv_icmp_ge (tgt := 102) hx hb dX0_alikeLinks_32 (by decide) (fun c11 => ?_) (fun c11 => ?_)
    · have hf := mt_ifT c11 hf
      refine lv_iload_n hx hb dX0_alikeLinks_102 rfl (lv_at hl 1 rfl) ?_
      obtain ⟨i1, i2⟩ := mt_so2 hf
      subst i1
      subst i2
      exact mt_iret hx hb hr hI hH hS hlocks dX0_alikeLinks_103
    · have hf := mt_ifF c11 hf
      refine lv_iload_n hx hb dX0_alikeLinks_35 rfl (lv_at hl 2 rfl) ?_
      refine lv_iconst (v := 1) hx hb dX0_alikeLinks_36 (by decide) ?_
      refine lv_iadd hx hb dX0_alikeLinks_37 ?_
      refine mt_lti hf (fun x12 ex12 hf => ?_)
      refine lv_istore_n (lv' := [(3, .int x12), (0, .ref (E.2.1 c)), (1, .int x6), (2, .int x7)]) hx hb dX0_alikeLinks_38 rfl hl (by decide) rfl (fun ls hl => ?_)
      refine mt_lpI3 hf (fun (x13 : Int32) (x14 : Int32) (M15 : mt_M) => ∀ (H : Heap) (locs : List Loc) (ls : Array Slot), mt_H E M15 u H → va_S (mt_A E) s.heap H locs → lv_has ls 4 [(0, .ref (E.2.1 c)), (1, .int x13), (2, .int x7), (3, .int x14)] → W p l e (headSpec wsX0_alikeLinks ({ frames := 2, cells := 0, slots := 0, locals := 43 } : Room)).room s mid (([.ref (E.2.1 c)] : List Value).toArray) below meth c0 H locs 0 0 (MQ below (mt_Qi E r M' u) (([.ref (E.2.1 c)] : List Value).toArray) s 0 0 (mt_A E)) (F0 mid 39 ls [])) ?_ _ _ _ hH hS (lv_sub hl [1, 2, 3, 0] rfl)
      intro k16 ih17 x13 x14 M15 hf H locs ls hH hS hl
      refine lv_iload_n hx hb dX0_alikeLinks_39 rfl (lv_at hl 3 rfl) ?_
      refine lv_aload_n hx hb dX0_alikeLinks_40 rfl (lv_at hl 0 rfl) ?_
      refine mt_geti (C := RX0) (T := TX0) (N := 12) hx hb hts hinX0 hown hI hH (mt_T_cup hc) rfl 8 (by decide) kw0 rfl rfl dX0_alikeLinks_41 ?_
      refine lv_icmp_ge (tgt := 96) hx hb dX0_alikeLinks_44 (by decide) (fun c18 => ?_) (fun c18 => ?_)
      · have hf := mt_ifT c18 hf
        refine mt_ltI hf (fun x19 ex19 hf => ?_)
        refine lv_iinc (v := x19) (lv' := [(2, .int x19), (0, .ref (E.2.1 c)), (1, .int x13), (3, .int x14)]) hx hb dX0_alikeLinks_96 hl (k := 2) rfl (by rw [ex19]; rfl) (by decide) rfl (fun ls hl => ?_)
        refine lv_goto (tgt := 27) hx hb dX0_alikeLinks_99 (by decide) ?_
        exact ih10 x13 x19 M15 hf _ _ _ hH hS (lv_sub hl [1, 2, 0] rfl)
      · have hf := mt_ifF c18 hf
        refine lv_aload_n hx hb dX0_alikeLinks_47 rfl (lv_at hl 0 rfl) ?_
        refine lv_iload_n hx hb dX0_alikeLinks_48 rfl (lv_at hl 2 rfl) ?_
        refine lv_iload_n hx hb dX0_alikeLinks_49 rfl (lv_at hl 3 rfl) ?_
        refine mt_b1I hf (fun r21 hg20 hf => ?_)
        refine mt_goi (mt_runV (i := c) (As := [.int x7, .int x14]) (rest := []) ⟨hx, hb, hml, hown, hts⟩ hI hH (c_X0_areAlike l E c hc x7 x14 M15 u _ hg20) (cwV 2 hts gX0_alikeLinks_X0_areAlike rfl rfl rfl (by decide +kernel) ⟨Nat.le_of_ble_eq_true rfl, Nat.le_of_ble_eq_true rfl⟩) (mt_T_cup hc) rfl rfl hl.1 rfl (Nat.le_of_ble_eq_true rfl) dX0_alikeLinks_50 ⟨Nat.zero_le _, Nat.zero_le _⟩) hS (fun H locs hH hS => ?_)
        refine mt_jn2 hf (fun (x22 : Int32) (M23 : mt_M) => ∀ (H : Heap) (locs : List Loc) (ls : Array Slot), mt_H E M23 u H → va_S (mt_A E) s.heap H locs → lv_has ls 4 [(0, .ref (E.2.1 c)), (1, .int x22), (2, .int x7), (3, .int x14)] → W p l e (headSpec wsX0_alikeLinks ({ frames := 2, cells := 0, slots := 0, locals := 43 } : Room)).room s mid (([.ref (E.2.1 c)] : List Value).toArray) below meth c0 H locs 0 0 (MQ below (mt_Qi E r M' u) (([.ref (E.2.1 c)] : List Value).toArray) s 0 0 (mt_A E)) (F0 mid 90 ls [])) ?_ ?_
        · intro x22 M23 hf H locs ls hH hS hl
          refine mt_ltI hf (fun x26 ex26 hf => ?_)
          refine lv_iinc (v := x26) (lv' := [(3, .int x26), (0, .ref (E.2.1 c)), (1, .int x22), (2, .int x7)]) hx hb dX0_alikeLinks_90 hl (k := 3) rfl (by rw [ex26]; rfl) (by decide) rfl (fun ls hl => ?_)
          refine lv_goto (tgt := 39) hx hb dX0_alikeLinks_93 (by decide) ?_
          exact ih17 x22 x26 M23 hf _ _ _ hH hS (lv_sub hl [1, 2, 3, 0] rfl)
        · intro j24 hj25 hf
          refine lv_if_eq (tgt := 90) hx hb dX0_alikeLinks_53 (by decide) (fun c27 => ?_) (fun c27 => ?_)
          · have hf := mt_ifT c27 hf
            exact hj25 x13 M15 hf _ _ _ hH hS (lv_sub hl [0, 1, 2, 3] rfl)
          · have hf := mt_ifF c27 hf
            refine lv_aload_n hx hb dX0_alikeLinks_56 rfl (lv_at hl 0 rfl) ?_
            refine mt_getr (C := RX0) (T := TX0) (N := 12) hx hb hts hinX0 hown hI hH (mt_T_cup hc) rfl 7 (by decide) kw1 rfl rfl dX0_alikeLinks_57 ?_
            refine lv_iload_n hx hb dX0_alikeLinks_60 rfl (lv_at hl 2 rfl) ?_
            refine mt_ciI hf (fun q28 hf => ?_)
            refine mt_iald hx hb hI hH (mt_T_cupA hc 7 (by decide) (by decide)) q28 dX0_alikeLinks_61 ?_
            refine lv_aload_n hx hb dX0_alikeLinks_62 rfl (lv_at hl 0 rfl) ?_
            refine mt_getr (C := RX0) (T := TX0) (N := 12) hx hb hts hinX0 hown hI hH (mt_T_cup hc) rfl 7 (by decide) kw1 rfl rfl dX0_alikeLinks_63 ?_
            refine lv_iload_n hx hb dX0_alikeLinks_66 rfl (lv_at hl 3 rfl) ?_
            refine mt_ciI hf (fun q29 hf => ?_)
            refine mt_iald hx hb hI hH (mt_T_cupA hc 7 (by decide) (by decide)) q29 dX0_alikeLinks_67 ?_
            refine lv_icmp_eq (tgt := 90) hx hb dX0_alikeLinks_68 (by decide) (fun c30 => ?_) (fun c30 => ?_)
            · have hf := mt_ifT c30 hf
              exact hj25 x13 M15 hf _ _ _ hH hS (lv_sub hl [0, 1, 2, 3] rfl)
            · have hf := mt_ifF c30 hf
              refine lv_aload_n hx hb dX0_alikeLinks_71 rfl (lv_at hl 0 rfl) ?_
              refine lv_aload_n hx hb dX0_alikeLinks_72 rfl (lv_at hl 0 rfl) ?_
              refine mt_getr (C := RX0) (T := TX0) (N := 12) hx hb hts hinX0 hown hI hH (mt_T_cup hc) rfl 7 (by decide) kw1 rfl rfl dX0_alikeLinks_73 ?_
              refine lv_iload_n hx hb dX0_alikeLinks_76 rfl (lv_at hl 2 rfl) ?_
              refine mt_ciI hf (fun q31 hf => ?_)
              refine mt_iald hx hb hI hH (mt_T_cupA hc 7 (by decide) (by decide)) q31 dX0_alikeLinks_77 ?_
              refine lv_aload_n hx hb dX0_alikeLinks_78 rfl (lv_at hl 0 rfl) ?_
              refine mt_getr (C := RX0) (T := TX0) (N := 12) hx hb hts hinX0 hown hI hH (mt_T_cup hc) rfl 7 (by decide) kw1 rfl rfl dX0_alikeLinks_79 ?_
              refine lv_iload_n hx hb dX0_alikeLinks_82 rfl (lv_at hl 3 rfl) ?_
              refine mt_ciI hf (fun q32 hf => ?_)
              refine mt_iald hx hb hI hH (mt_T_cupA hc 7 (by decide) (by decide)) q32 dX0_alikeLinks_83 ?_
              refine mt_b1I hf (fun M34 hg33 hf => ?_)
              refine mt_gov (mt_runV (i := c) (As := [.int (M15 (c + 7) x7.toNatClampNeg), .int (M15 (c + 7) x14.toNatClampNeg)]) (rest := []) ⟨hx, hb, hml, hown, hts⟩ hI hH (c_X0_hangTogether l E c hc (M15 (c + 7) x7.toNatClampNeg) (M15 (c + 7) x14.toNatClampNeg) M15 u _ hg33) (cwV 2 hts gX0_alikeLinks_X0_hangTogether rfl rfl rfl (by decide +kernel) ⟨Nat.le_of_ble_eq_true rfl, Nat.le_of_ble_eq_true rfl⟩) (mt_T_cup hc) rfl rfl hl.1 rfl (Nat.le_of_ble_eq_true rfl) dX0_alikeLinks_84 ⟨Nat.zero_le _, Nat.zero_le _⟩) hS (fun H locs hH hS => ?_)
              refine mt_ltI hf (fun x35 ex35 hf => ?_)
              refine lv_iinc (v := x35) (lv' := [(1, .int x35), (0, .ref (E.2.1 c)), (2, .int x7), (3, .int x14)]) hx hb dX0_alikeLinks_87 hl (k := 1) rfl (by rw [ex35]; rfl) (by decide) rfl (fun ls hl => ?_)
              exact hj25 x35 M34 hf _ _ _ hH hS (lv_sub hl [1, 0, 2, 3] rfl)
  · have hf := mt_ifF c5 hf
    refine lv_aload_n hx hb dX0_alikeLinks_10 rfl (lv_at hl 0 rfl) ?_
    refine mt_getr (C := RX0) (T := TX0) (N := 12) hx hb hts hinX0 hown hI hH (mt_T_cup hc) rfl 7 (by decide) kw1 rfl rfl dX0_alikeLinks_11 ?_
    refine lv_iload_n hx hb dX0_alikeLinks_14 rfl (lv_at hl 1 rfl) ?_
    refine lv_iload_n hx hb dX0_alikeLinks_15 rfl (lv_at hl 1 rfl) ?_
    refine mt_ciI hf (fun q37 hf => ?_)
    refine mt_iast hx hb hI hH hS (mt_T_cupA hc 7 (by decide) (by decide)) q37 dX0_alikeLinks_16 (fun H locs hH hS => ?_)
    refine mt_ltI hf (fun M36 eM36 hf => ?_)
    rw [← eM36] at hH
    refine mt_ltI hf (fun x38 ex38 hf => ?_)
    refine lv_iinc (v := x38) (lv' := [(1, .int x38), (0, .ref (E.2.1 c))]) hx hb dX0_alikeLinks_17 hl (k := 1) rfl (by rw [ex38]; rfl) (by decide) rfl (fun ls hl => ?_)
    refine lv_goto (tgt := 2) hx hb dX0_alikeLinks_20 (by decide) ?_
    exact ih4 x38 M36 hf _ _ _ hH hS (lv_sub hl [1, 0] rfl)
set_option maxHeartbeats 4000000 in
set_option maxRecDepth 100000 in
theorem c_X4_become (l : Launch) (E : mt_E) (h : Nat) (hh : mt_hou h) (o1 : Nat) (hh1 : mt_hou o1) (M : mt_M) (u : mt_U) (M' : mt_M) (hf : f_X4_become h o1 M = some (M')) : Met l yX4_become wsX4_become ({ frames := 2, cells := 0, slots := 0, locals := 47 } : Room) (mt_P E [.ref (E.2.1 h), .ref (E.2.1 o1)] M u) (mt_Qv E M' u) 0 0 (mt_A E) := by
  refine Met.ofW (cc := cX4_become) (maxL := 2) (ret := none) (by decide) rfl ?_
  intro p e s mid args below meth c0 s₁ B hml hv
  obtain ⟨rfl, hI, hH⟩ := hv
  have hx := B.exec
  have hb := B.bytes
  have hr := B.returns
  have hts := atoms_spec (ws := wsX4_become) B.pre
  have hown : s.vm.findClass RX4 = some mid.cls := findClass_of_methodNamed B.named
  have hlocks := B.notSynchronized
  have hS : va_S (mt_A E) s.heap s.heap [] := va_S.rf
  have hl := lv_entry ([.ref (E.2.1 h), .ref (E.2.1 o1)]) (n := 2) (Nat.le_of_ble_eq_true rfl)
  rw [lg_entry_eq]
  generalize (lg_sl ([.ref (E.2.1 h), .ref (E.2.1 o1)]) ++ List.replicate (2 - (lg_sl ([.ref (E.2.1 h), .ref (E.2.1 o1)])).length) Slot.unset).toArray = ls at hl ⊢
  have hl : lv_has ls 2 [(0, .ref (E.2.1 h)), (1, .ref (E.2.1 o1))] := hl
  unfold f_X4_become at hf
  have kw0 := hts (.fieldLink RX4 23 "MilkTwice$House" "cupboard" "LMilkTwice$Cupboard;") (List.mem_of_getElem? (i := 1) rfl)
  have kw1 := hts (.fieldLink RX4 9 "MilkTwice$House" "wanted" "[I") (List.mem_of_getElem? (i := 2) rfl)
  have kw2 := hts (.methodLink RX4 31 arraycopyName) (List.mem_of_getElem? (i := 3) rfl)
  have kw3 := hts (.native arraycopyName) (List.mem_of_getElem? (i := 4) rfl)
  have kw4 := hts (.static arraycopyName) (List.mem_of_getElem? (i := 5) rfl)
  have kw5 := hts (.initialized "java/lang/System") (List.mem_of_getElem? (i := 6) rfl)
  have kw6 := hts (.fieldLink RX4 15 "MilkTwice$House" "clock" "[I") (List.mem_of_getElem? (i := 7) rfl)
  have kw7 := hts (.fieldLink RX4 37 "MilkTwice$House" "now" "I") (List.mem_of_getElem? (i := 8) rfl)
  have kw8 := hts (.fieldLink RX4 41 "MilkTwice$House" "days" "I") (List.mem_of_getElem? (i := 9) rfl)
  have kw9 := hts (.fieldLink RX4 44 "MilkTwice$House" "rule" "I") (List.mem_of_getElem? (i := 10) rfl)
  have hinX4 : ∀ w ∈ u_ws RX4 TX4 6, w ∈ wsX4_become := fun w h => List.mem_cons_of_mem _ (List.mem_append_left _ (List.mem_append_right _ h))
  refine lv_aload_n hx hb dX4_become_0 rfl (lv_at hl 0 rfl) ?_
  refine mt_getr (C := RX4) (T := TX4) (N := 6) hx hb hts hinX4 hown hI hH (mt_T_hou hh) rfl 0 (by decide) kw0 rfl rfl dX4_become_1 ?_
  refine lv_aload_n hx hb dX4_become_4 rfl (lv_at hl 1 rfl) ?_
  refine mt_getr (C := RX4) (T := TX4) (N := 6) hx hb hts hinX4 hown hI hH (mt_T_hou hh1) rfl 0 (by decide) kw0 rfl rfl dX4_become_5 ?_
  refine mt_b1I hf (fun M2 hg1 hf => ?_)
  refine mt_gov (mt_runV (i := (h + 3)) (As := [.ref (E.2.1 (o1 + 3))]) (rest := []) ⟨hx, hb, hml, hown, hts⟩ hI hH (c_X0_become l E (h + 3) (mt_hou_cup hh) (o1 + 3) (mt_hou_cup hh1) M u _ hg1) (cwV 1 hts gX4_become_X0_become rfl rfl rfl (by decide +kernel) ⟨Nat.le_of_ble_eq_true rfl, Nat.le_of_ble_eq_true rfl⟩) (mt_T_cup (mt_hou_cup hh)) rfl rfl hl.1 rfl (Nat.le_of_ble_eq_true rfl) dX4_become_8 ⟨Nat.zero_le _, Nat.zero_le _⟩) hS (fun H locs hH hS => ?_)
  refine lv_aload_n hx hb dX4_become_11 rfl (lv_at hl 1 rfl) ?_
  refine mt_getr (C := RX4) (T := TX4) (N := 6) hx hb hts hinX4 hown hI hH (mt_T_hou hh1) rfl 1 (by decide) kw1 rfl rfl dX4_become_12 ?_
  refine lv_iconst (v := 0) hx hb dX4_become_15 (by decide) ?_
  refine lv_aload_n hx hb dX4_become_16 rfl (lv_at hl 0 rfl) ?_
  refine mt_getr (C := RX4) (T := TX4) (N := 6) hx hb hts hinX4 hown hI hH (mt_T_hou hh) rfl 1 (by decide) kw1 rfl rfl dX4_become_17 ?_
  refine lv_iconst (v := 0) hx hb dX4_become_20 (by decide) ?_
  refine lv_iconst (v := 2) hx hb dX4_become_21 (by decide) ?_
  refine mt_copy hx hb (hml.trans hl.1.symm) hown kw2 kw3 kw4 kw5 hI hH hS (mt_T_houW hh1) (mt_T_houW hh) (by decide) (by decide) (Nat.le_of_ble_eq_true rfl) (Nat.le_of_ble_eq_true rfl) dX4_become_22 (fun H locs hH hS => ?_)
  refine mt_ltI hf (fun M3 eM3 hf => ?_)
  rw [← eM3] at hH
  refine lv_aload_n hx hb dX4_become_25 rfl (lv_at hl 1 rfl) ?_
  refine mt_getr (C := RX4) (T := TX4) (N := 6) hx hb hts hinX4 hown hI hH (mt_T_hou hh1) rfl 2 (by decide) kw6 rfl rfl dX4_become_26 ?_
  refine lv_iconst (v := 0) hx hb dX4_become_29 (by decide) ?_
  refine lv_aload_n hx hb dX4_become_30 rfl (lv_at hl 0 rfl) ?_
  refine mt_getr (C := RX4) (T := TX4) (N := 6) hx hb hts hinX4 hown hI hH (mt_T_hou hh) rfl 2 (by decide) kw6 rfl rfl dX4_become_31 ?_
  refine lv_iconst (v := 0) hx hb dX4_become_34 (by decide) ?_
  refine lv_bipush (v := 14) hx hb dX4_become_35 (by decide) ?_
  refine mt_copy hx hb (hml.trans hl.1.symm) hown kw2 kw3 kw4 kw5 hI hH hS (mt_T_houC hh1) (mt_T_houC hh) (by decide) (by decide) (Nat.le_of_ble_eq_true rfl) (Nat.le_of_ble_eq_true rfl) dX4_become_37 (fun H locs hH hS => ?_)
  refine mt_ltI hf (fun M4 eM4 hf => ?_)
  rw [← eM4] at hH
  refine lv_aload_n hx hb dX4_become_40 rfl (lv_at hl 0 rfl) ?_
  refine lv_aload_n hx hb dX4_become_41 rfl (lv_at hl 1 rfl) ?_
  refine mt_geti (C := RX4) (T := TX4) (N := 6) hx hb hts hinX4 hown hI hH (mt_T_hou hh1) rfl 3 (by decide) kw7 rfl rfl dX4_become_42 ?_
  refine mt_puti (ty := .int) (C := RX4) (T := TX4) (N := 6) hx hb hts hinX4 tyX4 tyX4_ok nmX4 hown hI hH hS (mt_T_hou hh) rfl 3 (by decide) kw7 rfl rfl (by decide +kernel) rfl rfl rfl dX4_become_45 (fun H locs hH hS => ?_)
  refine mt_ltI hf (fun M5 eM5 hf => ?_)
  rw [← eM5] at hH
  refine lv_aload_n hx hb dX4_become_48 rfl (lv_at hl 0 rfl) ?_
  refine lv_aload_n hx hb dX4_become_49 rfl (lv_at hl 1 rfl) ?_
  refine mt_geti (C := RX4) (T := TX4) (N := 6) hx hb hts hinX4 hown hI hH (mt_T_hou hh1) rfl 4 (by decide) kw8 rfl rfl dX4_become_50 ?_
  refine mt_puti (ty := .int) (C := RX4) (T := TX4) (N := 6) hx hb hts hinX4 tyX4 tyX4_ok nmX4 hown hI hH hS (mt_T_hou hh) rfl 4 (by decide) kw8 rfl rfl (by decide +kernel) rfl rfl rfl dX4_become_53 (fun H locs hH hS => ?_)
  refine mt_ltI hf (fun M6 eM6 hf => ?_)
  rw [← eM6] at hH
  refine lv_aload_n hx hb dX4_become_56 rfl (lv_at hl 0 rfl) ?_
  refine lv_aload_n hx hb dX4_become_57 rfl (lv_at hl 1 rfl) ?_
  refine mt_geti (C := RX4) (T := TX4) (N := 6) hx hb hts hinX4 hown hI hH (mt_T_hou hh1) rfl 5 (by decide) kw9 rfl rfl dX4_become_58 ?_
  refine mt_puti (ty := .int) (C := RX4) (T := TX4) (N := 6) hx hb hts hinX4 tyX4 tyX4_ok nmX4 hown hI hH hS (mt_T_hou hh) rfl 5 (by decide) kw9 rfl rfl (by decide +kernel) rfl rfl rfl dX4_become_61 (fun H locs hH hS => ?_)
  refine mt_ltI hf (fun M7 eM7 hf => ?_)
  rw [← eM7] at hH
  have i1 := mt_so1 hf
  subst i1
  exact mt_vret hx hb hr hI hH hS hlocks dX4_become_64
set_option maxHeartbeats 4000000 in
set_option maxRecDepth 100000 in
theorem c_X4_isLine (l : Launch) (E : mt_E) (h : Nat) (hh : mt_hou h) (a1 : Int32) (a2 : Int32) (M : mt_M) (u : mt_U) (r : Int32) (hf : f_X4_isLine h a1 a2 M = some (r)) : Met l yX4_isLine wsX4_isLine ({ frames := 1, cells := 0, slots := 0, locals := 21 } : Room) (mt_P E [.ref (E.2.1 h), .int a1, .int a2] M u) (mt_Qi E r M u) 0 0 (mt_A E) := by
  refine Met.ofW (cc := cX4_isLine) (maxL := 3) (ret := (some .boolean)) (by decide) rfl ?_
  intro p e s mid args below meth c0 s₁ B hml hv
  obtain ⟨rfl, hI, hH⟩ := hv
  have hx := B.exec
  have hb := B.bytes
  have hr := B.returns
  have hts := atoms_spec (ws := wsX4_isLine) B.pre
  have hown : s.vm.findClass RX4 = some mid.cls := findClass_of_methodNamed B.named
  have hlocks := B.notSynchronized
  have hS : va_S (mt_A E) s.heap s.heap [] := va_S.rf
  have hl := lv_entry ([.ref (E.2.1 h), .int a1, .int a2]) (n := 3) (Nat.le_of_ble_eq_true rfl)
  rw [lg_entry_eq]
  generalize (lg_sl ([.ref (E.2.1 h), .int a1, .int a2]) ++ List.replicate (3 - (lg_sl ([.ref (E.2.1 h), .int a1, .int a2])).length) Slot.unset).toArray = ls at hl ⊢
  have hl : lv_has ls 3 [(0, .ref (E.2.1 h)), (1, .int a1), (2, .int a2)] := hl
  unfold f_X4_isLine at hf
  have kw0 := hts (.fieldLink RX4 23 "MilkTwice$House" "cupboard" "LMilkTwice$Cupboard;") (List.mem_of_getElem? (i := 1) rfl)
  have kw1 := hts (.initialized RX11) (List.mem_of_getElem? (i := 3) rfl)
  have kw2 := hts (.static yX11_isOneOf) (List.mem_of_getElem? (i := 2) rfl)
  have hinX4 : ∀ w ∈ u_ws RX4 TX4 6, w ∈ wsX4_isLine := fun w h => List.mem_cons_of_mem _ (List.mem_append_left _ (List.mem_append_right _ h))
  refine lv_iload_n hx hb dX4_isLine_0 rfl (lv_at hl 1 rfl) ?_
  refine lv_iconst (v := 1) hx hb dX4_isLine_1 (by decide) ?_
  refine mt_b1I hf (fun r2 hg1 hf => ?_)
  refine mt_goi (mt_runSN (As := [.int a1, .int (1 : Int32)]) (rest := []) ⟨hx, hb, hml, hown, hts⟩ hI hH (c_X11_isOneOf l E a1 (1 : Int32) M u _ hg1) ⟨va_cnB 2 hts gX4_isLine_X11_isOneOf_n47 rfl rfl rfl (hI.2.2.1 _ (List.mem_of_getElem? (i := 15) rfl)) kw1 (by decide +kernel) ⟨Nat.le_of_ble_eq_true rfl, Nat.le_of_ble_eq_true rfl⟩, kw2, trivial⟩ rfl hl.1 rfl (Nat.le_of_ble_eq_true rfl) dX4_isLine_2 ⟨Nat.zero_le _, Nat.zero_le _⟩) hS (fun H locs hH hS => ?_)
  refine lv_if_eq (tgt := 23) hx hb dX4_isLine_5 (by decide) (fun c3 => ?_) (fun c3 => ?_)
  · have hf := mt_ifT c3 hf
    refine lv_iconst (v := 0) hx hb dX4_isLine_23 (by decide) ?_
    have i1 := mt_so1 hf
    subst i1
    exact mt_zret hx hb hr hI hH hS (by decide) hlocks dX4_isLine_24
  · have hf := mt_ifF c3 hf
    refine lv_aload_n hx hb dX4_isLine_8 rfl (lv_at hl 0 rfl) ?_
    refine mt_getr (C := RX4) (T := TX4) (N := 6) hx hb hts hinX4 hown hI hH (mt_T_hou hh) rfl 0 (by decide) kw0 rfl rfl dX4_isLine_9 ?_
    refine lv_iload_n hx hb dX4_isLine_12 rfl (lv_at hl 2 rfl) ?_
    refine mt_b1I hf (fun r5 hg4 hf => ?_)
    refine mt_goi (mt_runV (i := (h + 3)) (As := [.int a2]) (rest := []) ⟨hx, hb, hml, hown, hts⟩ hI hH (c_X0_has l E (h + 3) (mt_hou_cup hh) a2 M u _ hg4) (cwV 1 hts gX4_isLine_X0_has rfl rfl rfl (by decide +kernel) ⟨Nat.le_of_ble_eq_true rfl, Nat.le_of_ble_eq_true rfl⟩) (mt_T_cup (mt_hou_cup hh)) rfl rfl hl.1 rfl (Nat.le_of_ble_eq_true rfl) dX4_isLine_13 ⟨Nat.zero_le _, Nat.zero_le _⟩) hS (fun H locs hH hS => ?_)
    refine lv_if_eq (tgt := 23) hx hb dX4_isLine_16 (by decide) (fun c6 => ?_) (fun c6 => ?_)
    · have hf := mt_ifT c6 hf
      refine lv_iconst (v := 0) hx hb dX4_isLine_23 (by decide) ?_
      have i1 := mt_so1 hf
      subst i1
      exact mt_zret hx hb hr hI hH hS (by decide) hlocks dX4_isLine_24
    · have hf := mt_ifF c6 hf
      refine lv_iconst (v := 1) hx hb dX4_isLine_19 (by decide) ?_
      refine lv_goto (tgt := 24) hx hb dX4_isLine_20 (by decide) ?_
      have i1 := mt_so1 hf
      subst i1
      exact mt_zret hx hb hr hI hH hS (by decide) hlocks dX4_isLine_24
set_option maxHeartbeats 4000000 in
set_option maxRecDepth 100000 in
theorem c_X4_wantedBy (l : Launch) (E : mt_E) (h : Nat) (hh : mt_hou h) (a1 : Int32) (M : mt_M) (u : mt_U) (r : Int32) (hf : f_X4_wantedBy h a1 M = some (r)) : Met l yX4_wantedBy wsX4_wantedBy ({ frames := 1, cells := 0, slots := 0, locals := 21 } : Room) (mt_P E [.ref (E.2.1 h), .int a1] M u) (mt_Qi E r M u) 0 0 (mt_A E) := by
  refine Met.ofW (cc := cX4_wantedBy) (maxL := 2) (ret := (some .int)) (by decide) rfl ?_
  intro p e s mid args below meth c0 s₁ B hml hv
  obtain ⟨rfl, hI, hH⟩ := hv
  have hx := B.exec
  have hb := B.bytes
  have hr := B.returns
  have hts := atoms_spec (ws := wsX4_wantedBy) B.pre
  have hown : s.vm.findClass RX4 = some mid.cls := findClass_of_methodNamed B.named
  have hlocks := B.notSynchronized
  have hS : va_S (mt_A E) s.heap s.heap [] := va_S.rf
  have hl := lv_entry ([.ref (E.2.1 h), .int a1]) (n := 2) (Nat.le_of_ble_eq_true rfl)
  rw [lg_entry_eq]
  generalize (lg_sl ([.ref (E.2.1 h), .int a1]) ++ List.replicate (2 - (lg_sl ([.ref (E.2.1 h), .int a1])).length) Slot.unset).toArray = ls at hl ⊢
  have hl : lv_has ls 2 [(0, .ref (E.2.1 h)), (1, .int a1)] := hl
  unfold f_X4_wantedBy at hf
  have kw0 := hts (.fieldLink RX4 9 "MilkTwice$House" "wanted" "[I") (List.mem_of_getElem? (i := 1) rfl)
  have kw1 := hts (.initialized RX11) (List.mem_of_getElem? (i := 3) rfl)
  have kw2 := hts (.static yX11_isOneOf) (List.mem_of_getElem? (i := 2) rfl)
  have hinX4 : ∀ w ∈ u_ws RX4 TX4 6, w ∈ wsX4_wantedBy := fun w h => List.mem_cons_of_mem _ (List.mem_append_right _ h)
  refine lv_iload_n hx hb dX4_wantedBy_0 rfl (lv_at hl 1 rfl) ?_
  refine lv_iconst (v := 1) hx hb dX4_wantedBy_1 (by decide) ?_
  refine mt_b1I hf (fun r2 hg1 hf => ?_)
  refine mt_goi (mt_runSN (As := [.int a1, .int (1 : Int32)]) (rest := []) ⟨hx, hb, hml, hown, hts⟩ hI hH (c_X11_isOneOf l E a1 (1 : Int32) M u _ hg1) ⟨va_cnB 2 hts gX4_wantedBy_X11_isOneOf_n47 rfl rfl rfl (hI.2.2.1 _ (List.mem_of_getElem? (i := 15) rfl)) kw1 (by decide +kernel) ⟨Nat.le_of_ble_eq_true rfl, Nat.le_of_ble_eq_true rfl⟩, kw2, trivial⟩ rfl hl.1 rfl (Nat.le_of_ble_eq_true rfl) dX4_wantedBy_2 ⟨Nat.zero_le _, Nat.zero_le _⟩) hS (fun H locs hH hS => ?_)
  refine lv_if_eq (tgt := 17) hx hb dX4_wantedBy_5 (by decide) (fun c3 => ?_) (fun c3 => ?_)
  · have hf := mt_ifT c3 hf
    refine lv_iconst (v := 0) hx hb dX4_wantedBy_17 (by decide) ?_
    have i1 := mt_so1 hf
    subst i1
    exact mt_iret hx hb hr hI hH hS hlocks dX4_wantedBy_18
  · have hf := mt_ifF c3 hf
    refine lv_aload_n hx hb dX4_wantedBy_8 rfl (lv_at hl 0 rfl) ?_
    refine mt_getr (C := RX4) (T := TX4) (N := 6) hx hb hts hinX4 hown hI hH (mt_T_hou hh) rfl 1 (by decide) kw0 rfl rfl dX4_wantedBy_9 ?_
    refine lv_iload_n hx hb dX4_wantedBy_12 rfl (lv_at hl 1 rfl) ?_
    refine mt_ciI hf (fun q4 hf => ?_)
    refine mt_iald hx hb hI hH (mt_T_houW hh) q4 dX4_wantedBy_13 ?_
    refine lv_goto (tgt := 18) hx hb dX4_wantedBy_14 (by decide) ?_
    have i1 := mt_so1 hf
    subst i1
    exact mt_iret hx hb hr hI hH hS hlocks dX4_wantedBy_18
set_option maxHeartbeats 4000000 in
set_option maxRecDepth 100000 in
theorem c_X4_clockOf (l : Launch) (E : mt_E) (h : Nat) (hh : mt_hou h) (a1 : Int32) (a2 : Int32) (M : mt_M) (u : mt_U) (r : Int32) (hf : f_X4_clockOf h a1 a2 M = some (r)) : Met l yX4_clockOf wsX4_clockOf ({ frames := 2, cells := 0, slots := 0, locals := 43 } : Room) (mt_P E [.ref (E.2.1 h), .int a1, .int a2] M u) (mt_Qi E r M u) 0 0 (mt_A E) := by
  refine Met.ofW (cc := cX4_clockOf) (maxL := 3) (ret := (some .int)) (by decide) rfl ?_
  intro p e s mid args below meth c0 s₁ B hml hv
  obtain ⟨rfl, hI, hH⟩ := hv
  have hx := B.exec
  have hb := B.bytes
  have hr := B.returns
  have hts := atoms_spec (ws := wsX4_clockOf) B.pre
  have hown : s.vm.findClass RX4 = some mid.cls := findClass_of_methodNamed B.named
  have hlocks := B.notSynchronized
  have hS : va_S (mt_A E) s.heap s.heap [] := va_S.rf
  have hl := lv_entry ([.ref (E.2.1 h), .int a1, .int a2]) (n := 3) (Nat.le_of_ble_eq_true rfl)
  rw [lg_entry_eq]
  generalize (lg_sl ([.ref (E.2.1 h), .int a1, .int a2]) ++ List.replicate (3 - (lg_sl ([.ref (E.2.1 h), .int a1, .int a2])).length) Slot.unset).toArray = ls at hl ⊢
  have hl : lv_has ls 3 [(0, .ref (E.2.1 h)), (1, .int a1), (2, .int a2)] := hl
  unfold f_X4_clockOf at hf
  have kw0 := hts (.fieldLink RX4 15 "MilkTwice$House" "clock" "[I") (List.mem_of_getElem? (i := 1) rfl)
  have hinX4 : ∀ w ∈ u_ws RX4 TX4 6, w ∈ wsX4_clockOf := fun w h => List.mem_cons_of_mem _ (List.mem_append_left _ (List.mem_append_right _ h))
  refine lv_aload_n hx hb dX4_clockOf_0 rfl (lv_at hl 0 rfl) ?_
  refine lv_iload_n hx hb dX4_clockOf_1 rfl (lv_at hl 1 rfl) ?_
  refine lv_iload_n hx hb dX4_clockOf_2 rfl (lv_at hl 2 rfl) ?_
  refine mt_b1I hf (fun r2 hg1 hf => ?_)
  refine mt_goi (mt_runV (i := h) (As := [.int a1, .int a2]) (rest := []) ⟨hx, hb, hml, hown, hts⟩ hI hH (c_X4_isLine l E h hh a1 a2 M u _ hg1) (cwV 2 hts gX4_clockOf_X4_isLine rfl rfl rfl (by decide +kernel) ⟨Nat.le_of_ble_eq_true rfl, Nat.le_of_ble_eq_true rfl⟩) (mt_T_hou hh) rfl rfl hl.1 rfl (Nat.le_of_ble_eq_true rfl) dX4_clockOf_3 ⟨Nat.zero_le _, Nat.zero_le _⟩) hS (fun H locs hH hS => ?_)
  refine lv_if_eq (tgt := 23) hx hb dX4_clockOf_6 (by decide) (fun c3 => ?_) (fun c3 => ?_)
  · have hf := mt_ifT c3 hf
    refine lv_iconst (v := 0) hx hb dX4_clockOf_23 (by decide) ?_
    have i1 := mt_so1 hf
    subst i1
    exact mt_iret hx hb hr hI hH hS hlocks dX4_clockOf_24
  · have hf := mt_ifF c3 hf
    refine lv_aload_n hx hb dX4_clockOf_9 rfl (lv_at hl 0 rfl) ?_
    refine mt_getr (C := RX4) (T := TX4) (N := 6) hx hb hts hinX4 hown hI hH (mt_T_hou hh) rfl 2 (by decide) kw0 rfl rfl dX4_clockOf_10 ?_
    refine lv_iload_n hx hb dX4_clockOf_13 rfl (lv_at hl 1 rfl) ?_
    refine lv_bipush (v := 7) hx hb dX4_clockOf_14 (by decide) ?_
    refine lv_imul hx hb dX4_clockOf_16 ?_
    refine lv_iload_n hx hb dX4_clockOf_17 rfl (lv_at hl 2 rfl) ?_
    refine lv_iadd hx hb dX4_clockOf_18 ?_
    refine mt_ciI hf (fun q4 hf => ?_)
    refine mt_iald hx hb hI hH (mt_T_houC hh) q4 dX4_clockOf_19 ?_
    refine lv_goto (tgt := 24) hx hb dX4_clockOf_20 (by decide) ?_
    have i1 := mt_so1 hf
    subst i1
    exact mt_iret hx hb hr hI hH hS hlocks dX4_clockOf_24
set_option maxHeartbeats 4000000 in
set_option maxRecDepth 100000 in
theorem c_X4_refusalToMark (l : Launch) (E : mt_E) (h : Nat) (hh : mt_hou h) (a1 : Int32) (a2 : Int32) (M : mt_M) (u : mt_U) (r : Int32) (hf : f_X4_refusalToMark h a1 a2 M = some (r)) : Met l yX4_refusalToMark wsX4_refusalToMark ({ frames := 2, cells := 0, slots := 0, locals := 43 } : Room) (mt_P E [.ref (E.2.1 h), .int a1, .int a2] M u) (mt_Qi E r M u) 0 0 (mt_A E) := by
  refine Met.ofW (cc := cX4_refusalToMark) (maxL := 3) (ret := (some .int)) (by decide) rfl ?_
  intro p e s mid args below meth c0 s₁ B hml hv
  obtain ⟨rfl, hI, hH⟩ := hv
  have hx := B.exec
  have hb := B.bytes
  have hr := B.returns
  have hts := atoms_spec (ws := wsX4_refusalToMark) B.pre
  have hown : s.vm.findClass RX4 = some mid.cls := findClass_of_methodNamed B.named
  have hlocks := B.notSynchronized
  have hS : va_S (mt_A E) s.heap s.heap [] := va_S.rf
  have hl := lv_entry ([.ref (E.2.1 h), .int a1, .int a2]) (n := 3) (Nat.le_of_ble_eq_true rfl)
  rw [lg_entry_eq]
  generalize (lg_sl ([.ref (E.2.1 h), .int a1, .int a2]) ++ List.replicate (3 - (lg_sl ([.ref (E.2.1 h), .int a1, .int a2])).length) Slot.unset).toArray = ls at hl ⊢
  have hl : lv_has ls 3 [(0, .ref (E.2.1 h)), (1, .int a1), (2, .int a2)] := hl
  unfold f_X4_refusalToMark at hf
  have kw0 := hts (.fieldLink RX4 37 "MilkTwice$House" "now" "I") (List.mem_of_getElem? (i := 1) rfl)
  have hinX4 : ∀ w ∈ u_ws RX4 TX4 6, w ∈ wsX4_refusalToMark := fun w h => List.mem_cons_of_mem _ (List.mem_append_left _ (List.mem_append_right _ h))
  refine lv_aload_n hx hb dX4_refusalToMark_0 rfl (lv_at hl 0 rfl) ?_
  refine lv_iload_n hx hb dX4_refusalToMark_1 rfl (lv_at hl 1 rfl) ?_
  refine lv_iload_n hx hb dX4_refusalToMark_2 rfl (lv_at hl 2 rfl) ?_
  refine mt_b1I hf (fun r2 hg1 hf => ?_)
  refine mt_goi (mt_runV (i := h) (As := [.int a1, .int a2]) (rest := []) ⟨hx, hb, hml, hown, hts⟩ hI hH (c_X4_isLine l E h hh a1 a2 M u _ hg1) (cwV 2 hts gX4_refusalToMark_X4_isLine rfl rfl rfl (by decide +kernel) ⟨Nat.le_of_ble_eq_true rfl, Nat.le_of_ble_eq_true rfl⟩) (mt_T_hou hh) rfl rfl hl.1 rfl (Nat.le_of_ble_eq_true rfl) dX4_refusalToMark_3 ⟨Nat.zero_le _, Nat.zero_le _⟩) hS (fun H locs hH hS => ?_)
  refine lv_if_ne (tgt := 11) hx hb dX4_refusalToMark_6 (by decide) (fun c3 => ?_) (fun c3 => ?_)
  · have hf := mt_ifF c3 hf
    refine lv_aload_n hx hb dX4_refusalToMark_11 rfl (lv_at hl 0 rfl) ?_
    refine mt_geti (C := RX4) (T := TX4) (N := 6) hx hb hts hinX4 hown hI hH (mt_T_hou hh) rfl 3 (by decide) kw0 rfl rfl dX4_refusalToMark_12 ?_
    refine lv_sipush (v := 999) hx hb dX4_refusalToMark_15 (by decide) ?_
    refine lv_icmp_lt (tgt := 26) hx hb dX4_refusalToMark_18 (by decide) (fun c4 => ?_) (fun c4 => ?_)
    · have hf := mt_ifT c4 hf
      refine lv_iconst (v := 0) hx hb dX4_refusalToMark_26 (by decide) ?_
      have i1 := mt_so1 hf
      subst i1
      exact mt_iret hx hb hr hI hH hS hlocks dX4_refusalToMark_27
    · have hf := mt_ifF c4 hf
      refine lv_bipush (v := (-6)) hx hb dX4_refusalToMark_21 (by decide) ?_
      refine lv_goto (tgt := 27) hx hb dX4_refusalToMark_23 (by decide) ?_
      have i1 := mt_so1 hf
      subst i1
      exact mt_iret hx hb hr hI hH hS hlocks dX4_refusalToMark_27
  · have hf := mt_ifT c3 hf
    refine lv_iconst (v := (-1)) hx hb dX4_refusalToMark_9 (by decide) ?_
    have i1 := mt_so1 hf
    subst i1
    exact mt_iret hx hb hr hI hH hS hlocks dX4_refusalToMark_10
set_option maxHeartbeats 4000000 in
set_option maxRecDepth 100000 in
theorem c_X4_markLine (l : Launch) (E : mt_E) (h : Nat) (hh : mt_hou h) (a1 : Int32) (a2 : Int32) (a3 : Int32) (M : mt_M) (u : mt_U) (r : Int32) (M' : mt_M) (hf : f_X4_markLine h a1 a2 a3 M = some (r, M')) : Met l yX4_markLine wsX4_markLine ({ frames := 3, cells := 0, slots := 0, locals := 65 } : Room) (mt_P E [.ref (E.2.1 h), .int a1, .int a2, .int a3] M u) (mt_Qi E r M' u) 0 0 (mt_A E) := by
  refine Met.ofW (cc := cX4_markLine) (maxL := 6) (ret := (some .int)) (by decide) rfl ?_
  intro p e s mid args below meth c0 s₁ B hml hv
  obtain ⟨rfl, hI, hH⟩ := hv
  have hx := B.exec
  have hb := B.bytes
  have hr := B.returns
  have hts := atoms_spec (ws := wsX4_markLine) B.pre
  have hown : s.vm.findClass RX4 = some mid.cls := findClass_of_methodNamed B.named
  have hlocks := B.notSynchronized
  have hS : va_S (mt_A E) s.heap s.heap [] := va_S.rf
  have hl := lv_entry ([.ref (E.2.1 h), .int a1, .int a2, .int a3]) (n := 6) (Nat.le_of_ble_eq_true rfl)
  rw [lg_entry_eq]
  generalize (lg_sl ([.ref (E.2.1 h), .int a1, .int a2, .int a3]) ++ List.replicate (6 - (lg_sl ([.ref (E.2.1 h), .int a1, .int a2, .int a3])).length) Slot.unset).toArray = ls at hl ⊢
  have hl : lv_has ls 6 [(0, .ref (E.2.1 h)), (1, .int a1), (2, .int a2), (3, .int a3)] := hl
  unfold f_X4_markLine at hf
  have kw0 := hts (.fieldLink RX4 37 "MilkTwice$House" "now" "I") (List.mem_of_getElem? (i := 1) rfl)
  have kw1 := hts (.fieldLink RX4 15 "MilkTwice$House" "clock" "[I") (List.mem_of_getElem? (i := 2) rfl)
  have kw2 := hts (.fieldLink RX4 9 "MilkTwice$House" "wanted" "[I") (List.mem_of_getElem? (i := 3) rfl)
  have kw3 := hts (.fieldLink RX4 23 "MilkTwice$House" "cupboard" "LMilkTwice$Cupboard;") (List.mem_of_getElem? (i := 4) rfl)
  have hinX4 : ∀ w ∈ u_ws RX4 TX4 6, w ∈ wsX4_markLine := fun w h => List.mem_cons_of_mem _ (List.mem_append_left _ (List.mem_append_right _ h))
  refine lv_aload_n hx hb dX4_markLine_0 rfl (lv_at hl 0 rfl) ?_
  refine lv_iload_n hx hb dX4_markLine_1 rfl (lv_at hl 1 rfl) ?_
  refine lv_iload_n hx hb dX4_markLine_2 rfl (lv_at hl 2 rfl) ?_
  refine mt_b1I hf (fun r2 hg1 hf => ?_)
  refine mt_goi (mt_runV (i := h) (As := [.int a1, .int a2]) (rest := []) ⟨hx, hb, hml, hown, hts⟩ hI hH (c_X4_refusalToMark l E h hh a1 a2 M u _ hg1) (cwV 2 hts gX4_markLine_X4_refusalToMark rfl rfl rfl (by decide +kernel) ⟨Nat.le_of_ble_eq_true rfl, Nat.le_of_ble_eq_true rfl⟩) (mt_T_hou hh) rfl rfl hl.1 rfl (Nat.le_of_ble_eq_true rfl) dX4_markLine_3 ⟨Nat.zero_le _, Nat.zero_le _⟩) hS (fun H locs hH hS => ?_)
  refine lv_istore (lv' := [(4, .int r2), (0, .ref (E.2.1 h)), (1, .int a1), (2, .int a2), (3, .int a3)]) hx hb dX4_markLine_6 hl (by decide) rfl (fun ls hl => ?_)
  refine lv_iload hx hb dX4_markLine_8 (lv_at hl 0 rfl) ?_
  refine lv_if_eq (tgt := 16) hx hb dX4_markLine_10 (by decide) (fun c3 => ?_) (fun c3 => ?_)
  · have hf := mt_ifT c3 hf
    refine lv_aload_n hx hb dX4_markLine_16 rfl (lv_at hl 1 rfl) ?_
    refine lv_dup hx hb dX4_markLine_17 rfl ?_
    refine mt_geti (C := RX4) (T := TX4) (N := 6) hx hb hts hinX4 hown hI hH (mt_T_hou hh) rfl 3 (by decide) kw0 rfl rfl dX4_markLine_18 ?_
    refine lv_iconst (v := 1) hx hb dX4_markLine_21 (by decide) ?_
    refine lv_iadd hx hb dX4_markLine_22 ?_
    refine mt_puti (ty := .int) (C := RX4) (T := TX4) (N := 6) hx hb hts hinX4 tyX4 tyX4_ok nmX4 hown hI hH hS (mt_T_hou hh) rfl 3 (by decide) kw0 rfl rfl (by decide +kernel) rfl rfl rfl dX4_markLine_23 (fun H locs hH hS => ?_)
    refine mt_ltI hf (fun M4 eM4 hf => ?_)
    rw [← eM4] at hH
    refine lv_aload_n hx hb dX4_markLine_26 rfl (lv_at hl 1 rfl) ?_
    refine mt_getr (C := RX4) (T := TX4) (N := 6) hx hb hts hinX4 hown hI hH (mt_T_hou hh) rfl 2 (by decide) kw1 rfl rfl dX4_markLine_27 ?_
    refine lv_iload_n hx hb dX4_markLine_30 rfl (lv_at hl 2 rfl) ?_
    refine lv_bipush (v := 7) hx hb dX4_markLine_31 (by decide) ?_
    refine lv_imul hx hb dX4_markLine_33 ?_
    refine lv_iload_n hx hb dX4_markLine_34 rfl (lv_at hl 3 rfl) ?_
    refine lv_iadd hx hb dX4_markLine_35 ?_
    refine lv_aload_n hx hb dX4_markLine_36 rfl (lv_at hl 1 rfl) ?_
    refine mt_geti (C := RX4) (T := TX4) (N := 6) hx hb hts hinX4 hown hI hH (mt_T_hou hh) rfl 3 (by decide) kw0 rfl rfl dX4_markLine_37 ?_
    refine mt_ciI hf (fun q6 hf => ?_)
    refine mt_iast hx hb hI hH hS (mt_T_houC hh) q6 dX4_markLine_40 (fun H locs hH hS => ?_)
    refine mt_ltI hf (fun M5 eM5 hf => ?_)
    rw [← eM5] at hH
    refine lv_iconst (v := 1) hx hb dX4_markLine_41 (by decide) ?_
    refine lv_iload_n hx hb dX4_markLine_42 rfl (lv_at hl 3 rfl) ?_
    refine lv_ishl hx hb dX4_markLine_43 ?_
    refine mt_lti hf (fun x7 ex7 hf => ?_)
    refine lv_istore (lv' := [(5, .int x7), (4, .int r2), (0, .ref (E.2.1 h)), (1, .int a1), (2, .int a2), (3, .int a3)]) hx hb dX4_markLine_44 hl (by decide) rfl (fun ls hl => ?_)
    refine lv_aload_n hx hb dX4_markLine_46 rfl (lv_at hl 2 rfl) ?_
    refine mt_getr (C := RX4) (T := TX4) (N := 6) hx hb hts hinX4 hown hI hH (mt_T_hou hh) rfl 1 (by decide) kw2 rfl rfl dX4_markLine_47 ?_
    refine lv_iload_n hx hb dX4_markLine_50 rfl (lv_at hl 3 rfl) ?_
    refine lv_iload_n hx hb dX4_markLine_51 rfl (lv_at hl 5 rfl) ?_
    refine lv_bipush (v := 119) hx hb dX4_markLine_52 (by decide) ?_
    refine mt_jn1 hf (fun (v8 : Int32) => ∀ (H : Heap) (locs : List Loc) (ls : Array Slot), mt_H E M5 u H → va_S (mt_A E) s.heap H locs → lv_has ls 6 [(0, .ref (E.2.1 h)), (2, .int a2), (3, .int a3)] → W p l e (headSpec wsX4_markLine ({ frames := 3, cells := 0, slots := 0, locals := 65 } : Room)).room s mid (([.ref (E.2.1 h), .int a1, .int a2, .int a3] : List Value).toArray) below meth c0 H locs 0 0 (MQ below (mt_Qi E r M' u) (([.ref (E.2.1 h), .int a1, .int a2, .int a3] : List Value).toArray) s 0 0 (mt_A E)) (F0 mid 80 ls [.int v8, .int a1, .ref (E.2.1 (h + 1))])) ?_ ?_
    · intro v8 hf H locs ls hH hS hl
      refine mt_ciI hf (fun q12 hf => ?_)
      refine mt_iast hx hb hI hH hS (mt_T_houW hh) q12 dX4_markLine_80 (fun H locs hH hS => ?_)
      refine mt_ltI hf (fun M11 eM11 hf => ?_)
      rw [← eM11] at hH
      refine lv_iload_n hx hb dX4_markLine_81 rfl (lv_at hl 2 rfl) ?_
      refine lv_bipush (v := 107) hx hb dX4_markLine_82 (by decide) ?_
      refine lv_icmp_ne (tgt := 96) hx hb dX4_markLine_84 (by decide) (fun c13 => ?_) (fun c13 => ?_)
      · have hf := mt_ifF c13 hf
        refine lv_iconst (v := 0) hx hb dX4_markLine_96 (by decide) ?_
        obtain ⟨i1, i2⟩ := mt_so2 hf
        subst i1
        subst i2
        exact mt_iret hx hb hr hI hH hS hlocks dX4_markLine_97
      · have hf := mt_ifT c13 hf
        refine lv_aload_n hx hb dX4_markLine_87 rfl (lv_at hl 0 rfl) ?_
        refine mt_getr (C := RX4) (T := TX4) (N := 6) hx hb hts hinX4 hown hI hH (mt_T_hou hh) rfl 0 (by decide) kw3 rfl rfl dX4_markLine_88 ?_
        refine lv_iload_n hx hb dX4_markLine_91 rfl (lv_at hl 1 rfl) ?_
        refine lv_iconst (v := 1) hx hb dX4_markLine_92 (by decide) ?_
        refine mt_b1I hf (fun M15 hg14 hf => ?_)
        refine mt_gov (mt_runV (i := (h + 3)) (As := [.int a2, .int (1 : Int32)]) (rest := []) ⟨hx, hb, hml, hown, hts⟩ hI hH (c_X0_buy l E (h + 3) (mt_hou_cup hh) a2 (1 : Int32) M11 u _ hg14) (cwV 2 hts gX4_markLine_X0_buy rfl rfl rfl (by decide +kernel) ⟨Nat.le_of_ble_eq_true rfl, Nat.le_of_ble_eq_true rfl⟩) (mt_T_cup (mt_hou_cup hh)) rfl rfl hl.1 rfl (Nat.le_of_ble_eq_true rfl) dX4_markLine_93 ⟨Nat.zero_le _, Nat.zero_le _⟩) hS (fun H locs hH hS => ?_)
        refine lv_iconst (v := 0) hx hb dX4_markLine_96 (by decide) ?_
        obtain ⟨i1, i2⟩ := mt_so2 hf
        subst i1
        subst i2
        exact mt_iret hx hb hr hI hH hS hlocks dX4_markLine_97
    · intro j9 hj10 hf
      refine lv_icmp_ne (tgt := 69) hx hb dX4_markLine_54 (by decide) (fun c16 => ?_) (fun c16 => ?_)
      · have hf := mt_ifF c16 hf
        refine lv_aload_n hx hb dX4_markLine_69 rfl (lv_at hl 2 rfl) ?_
        refine mt_getr (C := RX4) (T := TX4) (N := 6) hx hb hts hinX4 hown hI hH (mt_T_hou hh) rfl 1 (by decide) kw2 rfl rfl dX4_markLine_70 ?_
        refine lv_iload_n hx hb dX4_markLine_73 rfl (lv_at hl 3 rfl) ?_
        refine mt_ciI hf (fun q17 hf => ?_)
        refine mt_iald hx hb hI hH (mt_T_houW hh) q17 dX4_markLine_74 ?_
        refine lv_iload hx hb dX4_markLine_75 (lv_at hl 0 rfl) ?_
        refine lv_iconst (v := (-1)) hx hb dX4_markLine_77 (by decide) ?_
        refine lv_ixor hx hb dX4_markLine_78 ?_
        refine lv_iand hx hb dX4_markLine_79 ?_
        exact hj10 ((M5 (h + 1) a1.toNatClampNeg) &&& (x7 ^^^ (-1 : Int32))) hf _ _ _ hH hS (lv_sub hl [2, 4, 5] rfl)
      · have hf := mt_ifT c16 hf
        refine lv_aload_n hx hb dX4_markLine_57 rfl (lv_at hl 2 rfl) ?_
        refine mt_getr (C := RX4) (T := TX4) (N := 6) hx hb hts hinX4 hown hI hH (mt_T_hou hh) rfl 1 (by decide) kw2 rfl rfl dX4_markLine_58 ?_
        refine lv_iload_n hx hb dX4_markLine_61 rfl (lv_at hl 3 rfl) ?_
        refine mt_ciI hf (fun q18 hf => ?_)
        refine mt_iald hx hb hI hH (mt_T_houW hh) q18 dX4_markLine_62 ?_
        refine lv_iload hx hb dX4_markLine_63 (lv_at hl 0 rfl) ?_
        refine lv_ior hx hb dX4_markLine_65 ?_
        refine lv_goto (tgt := 80) hx hb dX4_markLine_66 (by decide) ?_
        exact hj10 ((M5 (h + 1) a1.toNatClampNeg) ||| x7) hf _ _ _ hH hS (lv_sub hl [2, 4, 5] rfl)
  · have hf := mt_ifF c3 hf
    refine lv_iload hx hb dX4_markLine_13 (lv_at hl 0 rfl) ?_
    obtain ⟨i1, i2⟩ := mt_so2 hf
    subst i1
    subst i2
    exact mt_iret hx hb hr hI hH hS hlocks dX4_markLine_15
set_option maxHeartbeats 4000000 in
set_option maxRecDepth 100000 in
theorem c_X4_liveDays (l : Launch) (E : mt_E) (h : Nat) (hh : mt_hou h) (a1 : Int32) (M : mt_M) (u : mt_U) (r : Int32) (M' : mt_M) (hf : f_X4_liveDays h a1 M = some (r, M')) : Met l yX4_liveDays wsX4_liveDays ({ frames := 3, cells := 0, slots := 0, locals := 68 } : Room) (mt_P E [.ref (E.2.1 h), .int a1] M u) (mt_Qi E r M' u) 0 0 (mt_A E) := by
  refine Met.ofW (cc := cX4_liveDays) (maxL := 4) (ret := (some .int)) (by decide) rfl ?_
  intro p e s mid args below meth c0 s₁ B hml hv
  obtain ⟨rfl, hI, hH⟩ := hv
  have hx := B.exec
  have hb := B.bytes
  have hr := B.returns
  have hts := atoms_spec (ws := wsX4_liveDays) B.pre
  have hown : s.vm.findClass RX4 = some mid.cls := findClass_of_methodNamed B.named
  have hlocks := B.notSynchronized
  have hS : va_S (mt_A E) s.heap s.heap [] := va_S.rf
  have hl := lv_entry ([.ref (E.2.1 h), .int a1]) (n := 4) (Nat.le_of_ble_eq_true rfl)
  rw [lg_entry_eq]
  generalize (lg_sl ([.ref (E.2.1 h), .int a1]) ++ List.replicate (4 - (lg_sl ([.ref (E.2.1 h), .int a1])).length) Slot.unset).toArray = ls at hl ⊢
  have hl : lv_has ls 4 [(0, .ref (E.2.1 h)), (1, .int a1)] := hl
  unfold f_X4_liveDays at hf
  have kw0 := hts (.fieldLink RX4 41 "MilkTwice$House" "days" "I") (List.mem_of_getElem? (i := 1) rfl)
  have kw1 := hts (.fieldLink RX4 23 "MilkTwice$House" "cupboard" "LMilkTwice$Cupboard;") (List.mem_of_getElem? (i := 2) rfl)
  have hinX4 : ∀ w ∈ u_ws RX4 TX4 6, w ∈ wsX4_liveDays := fun w h => List.mem_cons_of_mem _ (List.mem_append_left _ (List.mem_append_right _ h))
  refine lv_iconst (v := 0) hx hb dX4_liveDays_0 (by decide) ?_
  refine lv_istore_n (lv' := [(2, .int (0 : Int32)), (0, .ref (E.2.1 h)), (1, .int a1)]) hx hb dX4_liveDays_1 rfl hl (by decide) rfl (fun ls hl => ?_)
  refine lv_iconst (v := 0) hx hb dX4_liveDays_2 (by decide) ?_
  refine lv_istore_n (lv' := [(3, .int (0 : Int32)), (2, .int (0 : Int32)), (0, .ref (E.2.1 h)), (1, .int a1)]) hx hb dX4_liveDays_3 rfl hl (by decide) rfl (fun ls hl => ?_)
  refine mt_lpI3 hf (fun (x1 : Int32) (x2 : Int32) (M3 : mt_M) => ∀ (H : Heap) (locs : List Loc) (ls : Array Slot), mt_H E M3 u H → va_S (mt_A E) s.heap H locs → lv_has ls 4 [(0, .ref (E.2.1 h)), (1, .int a1), (2, .int x1), (3, .int x2)] → W p l e (headSpec wsX4_liveDays ({ frames := 3, cells := 0, slots := 0, locals := 68 } : Room)).room s mid (([.ref (E.2.1 h), .int a1] : List Value).toArray) below meth c0 H locs 0 0 (MQ below (mt_Qi E r M' u) (([.ref (E.2.1 h), .int a1] : List Value).toArray) s 0 0 (mt_A E)) (F0 mid 4 ls [])) ?_ _ _ _ hH hS (lv_sub hl [2, 3, 1, 0] rfl)
  intro k4 ih5 x1 x2 M3 hf H locs ls hH hS hl
  refine lv_iload_n hx hb dX4_liveDays_4 rfl (lv_at hl 3 rfl) ?_
  refine lv_iload_n hx hb dX4_liveDays_5 rfl (lv_at hl 1 rfl) ?_
  refine lv_icmp_ge (tgt := 35) hx hb dX4_liveDays_6 (by decide) (fun c6 => ?_) (fun c6 => ?_)
  · have hf := mt_ifT c6 hf
    refine lv_iload_n hx hb dX4_liveDays_35 rfl (lv_at hl 2 rfl) ?_
    obtain ⟨i1, i2⟩ := mt_so2 hf
    subst i1
    subst i2
    exact mt_iret hx hb hr hI hH hS hlocks dX4_liveDays_36
  · have hf := mt_ifF c6 hf
    refine lv_aload_n hx hb dX4_liveDays_9 rfl (lv_at hl 0 rfl) ?_
    refine lv_dup hx hb dX4_liveDays_10 rfl ?_
    refine mt_geti (C := RX4) (T := TX4) (N := 6) hx hb hts hinX4 hown hI hH (mt_T_hou hh) rfl 4 (by decide) kw0 rfl rfl dX4_liveDays_11 ?_
    refine lv_iconst (v := 1) hx hb dX4_liveDays_14 (by decide) ?_
    refine lv_iadd hx hb dX4_liveDays_15 ?_
    refine mt_puti (ty := .int) (C := RX4) (T := TX4) (N := 6) hx hb hts hinX4 tyX4 tyX4_ok nmX4 hown hI hH hS (mt_T_hou hh) rfl 4 (by decide) kw0 rfl rfl (by decide +kernel) rfl rfl rfl dX4_liveDays_16 (fun H locs hH hS => ?_)
    refine mt_ltI hf (fun M7 eM7 hf => ?_)
    rw [← eM7] at hH
    refine lv_iload_n hx hb dX4_liveDays_19 rfl (lv_at hl 2 rfl) ?_
    refine lv_aload_n hx hb dX4_liveDays_20 rfl (lv_at hl 0 rfl) ?_
    refine mt_getr (C := RX4) (T := TX4) (N := 6) hx hb hts hinX4 hown hI hH (mt_T_hou hh) rfl 0 (by decide) kw1 rfl rfl dX4_liveDays_21 ?_
    refine mt_b2I hf (fun r9 M10 hg8 hf => ?_)
    refine mt_goi (mt_runV (i := (h + 3)) (As := []) (rest := [.int x1]) ⟨hx, hb, hml, hown, hts⟩ hI hH (c_X0_liveDay l E (h + 3) (mt_hou_cup hh) M7 u _ _ hg8) (cwV 0 hts gX4_liveDays_X0_liveDay rfl rfl rfl (by decide +kernel) ⟨Nat.le_of_ble_eq_true rfl, Nat.le_of_ble_eq_true rfl⟩) (mt_T_cup (mt_hou_cup hh)) rfl rfl hl.1 rfl (Nat.le_of_ble_eq_true rfl) dX4_liveDays_24 ⟨Nat.zero_le _, Nat.zero_le _⟩) hS (fun H locs hH hS => ?_)
    refine lv_iadd hx hb dX4_liveDays_27 ?_
    refine mt_lti hf (fun x11 ex11 hf => ?_)
    refine lv_istore_n (lv' := [(2, .int x11), (0, .ref (E.2.1 h)), (1, .int a1), (3, .int x2)]) hx hb dX4_liveDays_28 rfl hl (by decide) rfl (fun ls hl => ?_)
    refine mt_ltI hf (fun x12 ex12 hf => ?_)
    refine lv_iinc (v := x12) (lv' := [(3, .int x12), (2, .int x11), (0, .ref (E.2.1 h)), (1, .int a1)]) hx hb dX4_liveDays_29 hl (k := 3) rfl (by rw [ex12]; rfl) (by decide) rfl (fun ls hl => ?_)
    refine lv_goto (tgt := 4) hx hb dX4_liveDays_32 (by decide) ?_
    exact ih5 x11 x12 M10 hf _ _ _ hH hS (lv_sub hl [2, 3, 1, 0] rfl)
set_option maxHeartbeats 4000000 in
set_option maxRecDepth 100000 in
theorem c_X4_laterWants (l : Launch) (E : mt_E) (h : Nat) (hh : mt_hou h) (a1 : Int32) (M : mt_M) (u : mt_U) (r : Int32) (hf : f_X4_laterWants h a1 M = some (r)) : Met l yX4_laterWants wsX4_laterWants ({ frames := 0, cells := 0, slots := 0, locals := 0 } : Room) (mt_P E [.ref (E.2.1 h), .int a1] M u) (mt_Qi E r M u) 0 0 (mt_A E) := by
  refine Met.ofW (cc := cX4_laterWants) (maxL := 5) (ret := (some .int)) (by decide) rfl ?_
  intro p e s mid args below meth c0 s₁ B hml hv
  obtain ⟨rfl, hI, hH⟩ := hv
  have hx := B.exec
  have hb := B.bytes
  have hr := B.returns
  have hts := atoms_spec (ws := wsX4_laterWants) B.pre
  have hown : s.vm.findClass RX4 = some mid.cls := findClass_of_methodNamed B.named
  have hlocks := B.notSynchronized
  have hS : va_S (mt_A E) s.heap s.heap [] := va_S.rf
  have hl := lv_entry ([.ref (E.2.1 h), .int a1]) (n := 5) (Nat.le_of_ble_eq_true rfl)
  rw [lg_entry_eq]
  generalize (lg_sl ([.ref (E.2.1 h), .int a1]) ++ List.replicate (5 - (lg_sl ([.ref (E.2.1 h), .int a1])).length) Slot.unset).toArray = ls at hl ⊢
  have hl : lv_has ls 5 [(0, .ref (E.2.1 h)), (1, .int a1)] := hl
  unfold f_X4_laterWants at hf
  have kw0 := hts (.fieldLink RX4 23 "MilkTwice$House" "cupboard" "LMilkTwice$Cupboard;") (List.mem_of_getElem? (i := 1) rfl)
  have kw1 := hts (.fieldLink RX4 15 "MilkTwice$House" "clock" "[I") (List.mem_of_getElem? (i := 2) rfl)
  have kw2 := hts (.fieldLink RX4 9 "MilkTwice$House" "wanted" "[I") (List.mem_of_getElem? (i := 3) rfl)
  have hinX4 : ∀ w ∈ u_ws RX4 TX4 6, w ∈ wsX4_laterWants := fun w h => List.mem_cons_of_mem _ (List.mem_append_left _ (List.mem_append_right _ h))
  have hinX0 : ∀ w ∈ u_ws RX0 TX0 12, w ∈ wsX4_laterWants := fun w h => List.mem_cons_of_mem _ (List.mem_append_right _ h)
  refine lv_iconst (v := 0) hx hb dX4_laterWants_0 (by decide) ?_
  refine lv_istore_n (lv' := [(2, .int (0 : Int32)), (0, .ref (E.2.1 h)), (1, .int a1)]) hx hb dX4_laterWants_1 rfl hl (by decide) rfl (fun ls hl => ?_)
  refine lv_iconst (v := 0) hx hb dX4_laterWants_2 (by decide) ?_
  refine lv_istore_n (lv' := [(3, .int (0 : Int32)), (2, .int (0 : Int32)), (0, .ref (E.2.1 h)), (1, .int a1)]) hx hb dX4_laterWants_3 rfl hl (by decide) rfl (fun ls hl => ?_)
  refine mt_lpI2 hf (fun (x1 : Int32) (x2 : Int32) => ∀ (H : Heap) (locs : List Loc) (ls : Array Slot), mt_H E M u H → va_S (mt_A E) s.heap H locs → lv_has ls 5 [(0, .ref (E.2.1 h)), (1, .int a1), (2, .int x1), (3, .int x2)] → W p l e (headSpec wsX4_laterWants ({ frames := 0, cells := 0, slots := 0, locals := 0 } : Room)).room s mid (([.ref (E.2.1 h), .int a1] : List Value).toArray) below meth c0 H locs 0 0 (MQ below (mt_Qi E r M u) (([.ref (E.2.1 h), .int a1] : List Value).toArray) s 0 0 (mt_A E)) (F0 mid 4 ls [])) ?_ _ _ _ hH hS (lv_sub hl [2, 3, 1, 0] rfl)
  intro k3 ih4 x1 x2 hf H locs ls hH hS hl
  refine lv_iload_n hx hb dX4_laterWants_4 rfl (lv_at hl 3 rfl) ?_
  refine lv_aload_n hx hb dX4_laterWants_5 rfl (lv_at hl 0 rfl) ?_
  refine mt_getr (C := RX4) (T := TX4) (N := 6) hx hb hts hinX4 hown hI hH (mt_T_hou hh) rfl 0 (by decide) kw0 rfl rfl dX4_laterWants_6 ?_
  refine mt_getiN (C := RX0) (T := TX0) (N := 12) hx hb hts hinX0 hown hI hH (mt_T_cup (mt_hou_cup hh)) rfl 8 (by decide) (List.mem_of_getElem? (i := 0) rfl) rfl rfl dX4_laterWants_9 ?_
  refine lv_icmp_ge (tgt := 62) hx hb dX4_laterWants_12 (by decide) (fun c5 => ?_) (fun c5 => ?_)
  · have hf := mt_ifT c5 hf
    refine lv_iload_n hx hb dX4_laterWants_62 rfl (lv_at hl 2 rfl) ?_
    have i1 := mt_so1 hf
    subst i1
    exact mt_iret hx hb hr hI hH hS hlocks dX4_laterWants_63
  · have hf := mt_ifF c5 hf
    refine lv_aload_n hx hb dX4_laterWants_15 rfl (lv_at hl 0 rfl) ?_
    refine mt_getr (C := RX4) (T := TX4) (N := 6) hx hb hts hinX4 hown hI hH (mt_T_hou hh) rfl 2 (by decide) kw1 rfl rfl dX4_laterWants_16 ?_
    refine lv_bipush (v := 7) hx hb dX4_laterWants_19 (by decide) ?_
    refine lv_iload_n hx hb dX4_laterWants_21 rfl (lv_at hl 3 rfl) ?_
    refine lv_iadd hx hb dX4_laterWants_22 ?_
    refine mt_ciI hf (fun q6 hf => ?_)
    refine mt_iald hx hb hI hH (mt_T_houC hh) q6 dX4_laterWants_23 ?_
    refine lv_iload_n hx hb dX4_laterWants_24 rfl (lv_at hl 1 rfl) ?_
    refine lv_iadd hx hb dX4_laterWants_25 ?_
    refine lv_aload_n hx hb dX4_laterWants_26 rfl (lv_at hl 0 rfl) ?_
    refine mt_getr (C := RX4) (T := TX4) (N := 6) hx hb hts hinX4 hown hI hH (mt_T_hou hh) rfl 2 (by decide) kw1 rfl rfl dX4_laterWants_27 ?_
    refine lv_iload_n hx hb dX4_laterWants_30 rfl (lv_at hl 3 rfl) ?_
    refine mt_ciI hf (fun q7 hf => ?_)
    refine mt_iald hx hb hI hH (mt_T_houC hh) q7 dX4_laterWants_31 ?_
    refine mt_jn1 hf (fun (v8 : Int32) => ∀ (H : Heap) (locs : List Loc) (ls : Array Slot), mt_H E M u H → va_S (mt_A E) s.heap H locs → lv_has ls 5 [(0, .ref (E.2.1 h)), (1, .int a1), (2, .int x1), (3, .int x2)] → W p l e (headSpec wsX4_laterWants ({ frames := 0, cells := 0, slots := 0, locals := 0 } : Room)).room s mid (([.ref (E.2.1 h), .int a1] : List Value).toArray) below meth c0 H locs 0 0 (MQ below (mt_Qi E r M u) (([.ref (E.2.1 h), .int a1] : List Value).toArray) s 0 0 (mt_A E)) (F0 mid 40 ls [.int v8])) ?_ ?_
    · intro v8 hf H locs ls hH hS hl
      refine lv_istore (lv' := [(4, .int v8), (0, .ref (E.2.1 h)), (1, .int a1), (2, .int x1), (3, .int x2)]) hx hb dX4_laterWants_40 hl (by decide) rfl (fun ls hl => ?_)
      refine lv_iload_n hx hb dX4_laterWants_42 rfl (lv_at hl 3 rfl) ?_
      refine lv_aload_n hx hb dX4_laterWants_43 rfl (lv_at hl 1 rfl) ?_
      refine mt_getr (C := RX4) (T := TX4) (N := 6) hx hb hts hinX4 hown hI hH (mt_T_hou hh) rfl 1 (by decide) kw2 rfl rfl dX4_laterWants_44 ?_
      refine lv_iload hx hb dX4_laterWants_47 (lv_at hl 0 rfl) ?_
      refine mt_ciI hf (fun q11 hf => ?_)
      refine mt_iald hx hb hI hH (mt_T_houW hh) q11 dX4_laterWants_49 ?_
      refine lv_iconst (v := 1) hx hb dX4_laterWants_50 (by decide) ?_
      refine lv_iload_n hx hb dX4_laterWants_51 rfl (lv_at hl 4 rfl) ?_
      refine lv_ishl hx hb dX4_laterWants_52 ?_
      refine lv_iand hx hb dX4_laterWants_53 ?_
      refine lv_ior hx hb dX4_laterWants_54 ?_
      refine mt_lti hf (fun x12 ex12 hf => ?_)
      refine lv_istore_n (lv' := [(2, .int x12), (4, .int v8), (0, .ref (E.2.1 h)), (1, .int a1), (3, .int x2)]) hx hb dX4_laterWants_55 rfl hl (by decide) rfl (fun ls hl => ?_)
      refine mt_ltI hf (fun x13 ex13 hf => ?_)
      refine lv_iinc (v := x13) (lv' := [(3, .int x13), (2, .int x12), (4, .int v8), (0, .ref (E.2.1 h)), (1, .int a1)]) hx hb dX4_laterWants_56 hl (k := 4) rfl (by rw [ex13]; rfl) (by decide) rfl (fun ls hl => ?_)
      refine lv_goto (tgt := 4) hx hb dX4_laterWants_59 (by decide) ?_
      exact ih4 x12 x13 hf _ _ _ hH hS (lv_sub hl [3, 4, 1, 0] rfl)
    · intro j9 hj10 hf
      refine lv_icmp_le (tgt := 39) hx hb dX4_laterWants_32 (by decide) (fun c14 => ?_) (fun c14 => ?_)
      · have hf := mt_ifT c14 hf
        refine lv_iconst (v := 0) hx hb dX4_laterWants_39 (by decide) ?_
        exact hj10 (0 : Int32) hf _ _ _ hH hS (lv_sub hl [0, 1, 2, 3] rfl)
      · have hf := mt_ifF c14 hf
        refine lv_iconst (v := 1) hx hb dX4_laterWants_35 (by decide) ?_
        refine lv_goto (tgt := 40) hx hb dX4_laterWants_36 (by decide) ?_
        exact hj10 (1 : Int32) hf _ _ _ hH hS (lv_sub hl [0, 1, 2, 3] rfl)
set_option maxHeartbeats 4000000 in
set_option maxRecDepth 100000 in
theorem c_X4_closeTogether (l : Launch) (E : mt_E) (h : Nat) (hh : mt_hou h) (a1 : Int32) (M : mt_M) (u : mt_U) (r : Int32) (hf : f_X4_closeTogether h a1 M = some (r)) : Met l yX4_closeTogether wsX4_closeTogether ({ frames := 1, cells := 0, slots := 0, locals := 21 } : Room) (mt_P E [.ref (E.2.1 h), .int a1] M u) (mt_Qi E r M u) 0 0 (mt_A E) := by
  refine Met.ofW (cc := cX4_closeTogether) (maxL := 4) (ret := (some .int)) (by decide) rfl ?_
  intro p e s mid args below meth c0 s₁ B hml hv
  obtain ⟨rfl, hI, hH⟩ := hv
  have hx := B.exec
  have hb := B.bytes
  have hr := B.returns
  have hts := atoms_spec (ws := wsX4_closeTogether) B.pre
  have hown : s.vm.findClass RX4 = some mid.cls := findClass_of_methodNamed B.named
  have hlocks := B.notSynchronized
  have hS : va_S (mt_A E) s.heap s.heap [] := va_S.rf
  have hl := lv_entry ([.ref (E.2.1 h), .int a1]) (n := 4) (Nat.le_of_ble_eq_true rfl)
  rw [lg_entry_eq]
  generalize (lg_sl ([.ref (E.2.1 h), .int a1]) ++ List.replicate (4 - (lg_sl ([.ref (E.2.1 h), .int a1])).length) Slot.unset).toArray = ls at hl ⊢
  have hl : lv_has ls 4 [(0, .ref (E.2.1 h)), (1, .int a1)] := hl
  unfold f_X4_closeTogether at hf
  have kw0 := hts (.fieldLink RX4 23 "MilkTwice$House" "cupboard" "LMilkTwice$Cupboard;") (List.mem_of_getElem? (i := 1) rfl)
  have kw1 := hts (.fieldLink RX4 15 "MilkTwice$House" "clock" "[I") (List.mem_of_getElem? (i := 2) rfl)
  have kw2 := hts (.methodLink RX4 73 Lib.Math.abs.name) (List.mem_of_getElem? (i := 3) rfl)
  have kw3 := hts (.static Lib.Math.abs.name) (List.mem_of_getElem? (i := 4) rfl)
  have kw4 := hts (.initialized "java/lang/Math") (List.mem_of_getElem? (i := 5) rfl)
  have kw5 := hts (.code Lib.Math.abs.name Lib.Math.abs.code 1 (some .int)) (List.mem_of_getElem? (i := 6) rfl)
  have hinX4 : ∀ w ∈ u_ws RX4 TX4 6, w ∈ wsX4_closeTogether := fun w h => List.mem_cons_of_mem _ (List.mem_append_left _ (List.mem_append_right _ h))
  have hinX0 : ∀ w ∈ u_ws RX0 TX0 12, w ∈ wsX4_closeTogether := fun w h => List.mem_cons_of_mem _ (List.mem_append_right _ h)
  refine lv_iconst (v := 0) hx hb dX4_closeTogether_0 (by decide) ?_
  refine lv_istore_n (lv' := [(2, .int (0 : Int32)), (0, .ref (E.2.1 h)), (1, .int a1)]) hx hb dX4_closeTogether_1 rfl hl (by decide) rfl (fun ls hl => ?_)
  refine lv_iconst (v := 0) hx hb dX4_closeTogether_2 (by decide) ?_
  refine lv_istore_n (lv' := [(3, .int (0 : Int32)), (2, .int (0 : Int32)), (0, .ref (E.2.1 h)), (1, .int a1)]) hx hb dX4_closeTogether_3 rfl hl (by decide) rfl (fun ls hl => ?_)
  refine mt_lpI2 hf (fun (x1 : Int32) (x2 : Int32) => ∀ (H : Heap) (locs : List Loc) (ls : Array Slot), mt_H E M u H → va_S (mt_A E) s.heap H locs → lv_has ls 4 [(0, .ref (E.2.1 h)), (1, .int a1), (2, .int x1), (3, .int x2)] → W p l e (headSpec wsX4_closeTogether ({ frames := 1, cells := 0, slots := 0, locals := 21 } : Room)).room s mid (([.ref (E.2.1 h), .int a1] : List Value).toArray) below meth c0 H locs 0 0 (MQ below (mt_Qi E r M u) (([.ref (E.2.1 h), .int a1] : List Value).toArray) s 0 0 (mt_A E)) (F0 mid 4 ls [])) ?_ _ _ _ hH hS (lv_sub hl [2, 3, 1, 0] rfl)
  intro k3 ih4 x1 x2 hf H locs ls hH hS hl
  refine lv_iload_n hx hb dX4_closeTogether_4 rfl (lv_at hl 3 rfl) ?_
  refine lv_aload_n hx hb dX4_closeTogether_5 rfl (lv_at hl 0 rfl) ?_
  refine mt_getr (C := RX4) (T := TX4) (N := 6) hx hb hts hinX4 hown hI hH (mt_T_hou hh) rfl 0 (by decide) kw0 rfl rfl dX4_closeTogether_6 ?_
  refine mt_getiN (C := RX0) (T := TX0) (N := 12) hx hb hts hinX0 hown hI hH (mt_T_cup (mt_hou_cup hh)) rfl 8 (by decide) (List.mem_of_getElem? (i := 0) rfl) rfl rfl dX4_closeTogether_9 ?_
  refine lv_icmp_ge (tgt := 50) hx hb dX4_closeTogether_12 (by decide) (fun c5 => ?_) (fun c5 => ?_)
  · have hf := mt_ifT c5 hf
    refine lv_iload_n hx hb dX4_closeTogether_50 rfl (lv_at hl 2 rfl) ?_
    have i1 := mt_so1 hf
    subst i1
    exact mt_iret hx hb hr hI hH hS hlocks dX4_closeTogether_51
  · have hf := mt_ifF c5 hf
    refine lv_aload_n hx hb dX4_closeTogether_15 rfl (lv_at hl 0 rfl) ?_
    refine mt_getr (C := RX4) (T := TX4) (N := 6) hx hb hts hinX4 hown hI hH (mt_T_hou hh) rfl 2 (by decide) kw1 rfl rfl dX4_closeTogether_16 ?_
    refine lv_iload_n hx hb dX4_closeTogether_19 rfl (lv_at hl 3 rfl) ?_
    refine mt_ciI hf (fun q6 hf => ?_)
    refine mt_iald hx hb hI hH (mt_T_houC hh) q6 dX4_closeTogether_20 ?_
    refine lv_aload_n hx hb dX4_closeTogether_21 rfl (lv_at hl 0 rfl) ?_
    refine mt_getr (C := RX4) (T := TX4) (N := 6) hx hb hts hinX4 hown hI hH (mt_T_hou hh) rfl 2 (by decide) kw1 rfl rfl dX4_closeTogether_22 ?_
    refine lv_bipush (v := 7) hx hb dX4_closeTogether_25 (by decide) ?_
    refine lv_iload_n hx hb dX4_closeTogether_27 rfl (lv_at hl 3 rfl) ?_
    refine lv_iadd hx hb dX4_closeTogether_28 ?_
    refine mt_ciI hf (fun q7 hf => ?_)
    refine mt_iald hx hb hI hH (mt_T_houC hh) q7 dX4_closeTogether_29 ?_
    refine lv_isub hx hb dX4_closeTogether_30 ?_
    refine va_mabs hx hb (hml.trans hl.1.symm) hown kw2 kw3 kw4 kw5 (Nat.le_of_ble_eq_true rfl) (Nat.le_of_ble_eq_true rfl) (Nat.zero_le _) (Nat.zero_le _) dX4_closeTogether_31 ?_
    refine mt_lti hf (fun x8 ex8 hf => ?_)
    refine lv_iload_n hx hb dX4_closeTogether_34 rfl (lv_at hl 1 rfl) ?_
    refine mt_jn1 hf (fun (x9 : Int32) => ∀ (H : Heap) (locs : List Loc) (ls : Array Slot), mt_H E M u H → va_S (mt_A E) s.heap H locs → lv_has ls 4 [(0, .ref (E.2.1 h)), (1, .int a1), (2, .int x9), (3, .int x2)] → W p l e (headSpec wsX4_closeTogether ({ frames := 1, cells := 0, slots := 0, locals := 21 } : Room)).room s mid (([.ref (E.2.1 h), .int a1] : List Value).toArray) below meth c0 H locs 0 0 (MQ below (mt_Qi E r M u) (([.ref (E.2.1 h), .int a1] : List Value).toArray) s 0 0 (mt_A E)) (F0 mid 44 ls [])) ?_ ?_
    · intro x9 hf H locs ls hH hS hl
      refine mt_ltI hf (fun x12 ex12 hf => ?_)
      refine lv_iinc (v := x12) (lv' := [(3, .int x12), (0, .ref (E.2.1 h)), (1, .int a1), (2, .int x9)]) hx hb dX4_closeTogether_44 hl (k := 3) rfl (by rw [ex12]; rfl) (by decide) rfl (fun ls hl => ?_)
      refine lv_goto (tgt := 4) hx hb dX4_closeTogether_47 (by decide) ?_
      exact ih4 x9 x12 hf _ _ _ hH hS (lv_sub hl [1, 2, 3, 0] rfl)
    · intro j10 hj11 hf
      refine lv_icmp_gt (tgt := 44) hx hb dX4_closeTogether_35 (by decide) (fun c13 => ?_) (fun c13 => ?_)
      · have hf := mt_ifT c13 hf
        exact hj11 x1 hf _ _ _ hH hS (lv_sub hl [0, 1, 2, 3] rfl)
      · have hf := mt_ifF c13 hf
        refine lv_iload_n hx hb dX4_closeTogether_38 rfl (lv_at hl 2 rfl) ?_
        refine lv_iconst (v := 1) hx hb dX4_closeTogether_39 (by decide) ?_
        refine lv_iload_n hx hb dX4_closeTogether_40 rfl (lv_at hl 3 rfl) ?_
        refine lv_ishl hx hb dX4_closeTogether_41 ?_
        refine lv_ior hx hb dX4_closeTogether_42 ?_
        refine mt_lti hf (fun x14 ex14 hf => ?_)
        refine lv_istore_n (lv' := [(2, .int x14), (0, .ref (E.2.1 h)), (1, .int a1), (3, .int x2)]) hx hb dX4_closeTogether_43 rfl hl (by decide) rfl (fun ls hl => ?_)
        exact hj11 x14 hf _ _ _ hH hS (lv_sub hl [1, 2, 0, 3] rfl)
set_option maxHeartbeats 4000000 in
set_option maxRecDepth 100000 in
theorem c_X4_neverMarked (l : Launch) (E : mt_E) (h : Nat) (hh : mt_hou h) (M : mt_M) (u : mt_U) (r : Int32) (hf : f_X4_neverMarked h M = some (r)) : Met l yX4_neverMarked wsX4_neverMarked ({ frames := 0, cells := 0, slots := 0, locals := 0 } : Room) (mt_P E [.ref (E.2.1 h)] M u) (mt_Qi E r M u) 0 0 (mt_A E) := by
  refine Met.ofW (cc := cX4_neverMarked) (maxL := 3) (ret := (some .int)) (by decide) rfl ?_
  intro p e s mid args below meth c0 s₁ B hml hv
  obtain ⟨rfl, hI, hH⟩ := hv
  have hx := B.exec
  have hb := B.bytes
  have hr := B.returns
  have hts := atoms_spec (ws := wsX4_neverMarked) B.pre
  have hown : s.vm.findClass RX4 = some mid.cls := findClass_of_methodNamed B.named
  have hlocks := B.notSynchronized
  have hS : va_S (mt_A E) s.heap s.heap [] := va_S.rf
  have hl := lv_entry ([.ref (E.2.1 h)]) (n := 3) (Nat.le_of_ble_eq_true rfl)
  rw [lg_entry_eq]
  generalize (lg_sl ([.ref (E.2.1 h)]) ++ List.replicate (3 - (lg_sl ([.ref (E.2.1 h)])).length) Slot.unset).toArray = ls at hl ⊢
  have hl : lv_has ls 3 [(0, .ref (E.2.1 h))] := hl
  unfold f_X4_neverMarked at hf
  have kw0 := hts (.fieldLink RX4 23 "MilkTwice$House" "cupboard" "LMilkTwice$Cupboard;") (List.mem_of_getElem? (i := 1) rfl)
  have kw1 := hts (.fieldLink RX4 15 "MilkTwice$House" "clock" "[I") (List.mem_of_getElem? (i := 2) rfl)
  have hinX4 : ∀ w ∈ u_ws RX4 TX4 6, w ∈ wsX4_neverMarked := fun w h => List.mem_cons_of_mem _ (List.mem_append_left _ (List.mem_append_right _ h))
  have hinX0 : ∀ w ∈ u_ws RX0 TX0 12, w ∈ wsX4_neverMarked := fun w h => List.mem_cons_of_mem _ (List.mem_append_right _ h)
  refine lv_iconst (v := 0) hx hb dX4_neverMarked_0 (by decide) ?_
  refine lv_istore_n (lv' := [(1, .int (0 : Int32)), (0, .ref (E.2.1 h))]) hx hb dX4_neverMarked_1 rfl hl (by decide) rfl (fun ls hl => ?_)
  refine lv_iconst (v := 0) hx hb dX4_neverMarked_2 (by decide) ?_
  refine lv_istore_n (lv' := [(2, .int (0 : Int32)), (1, .int (0 : Int32)), (0, .ref (E.2.1 h))]) hx hb dX4_neverMarked_3 rfl hl (by decide) rfl (fun ls hl => ?_)
  refine mt_lpI2 hf (fun (x1 : Int32) (x2 : Int32) => ∀ (H : Heap) (locs : List Loc) (ls : Array Slot), mt_H E M u H → va_S (mt_A E) s.heap H locs → lv_has ls 3 [(0, .ref (E.2.1 h)), (1, .int x1), (2, .int x2)] → W p l e (headSpec wsX4_neverMarked ({ frames := 0, cells := 0, slots := 0, locals := 0 } : Room)).room s mid (([.ref (E.2.1 h)] : List Value).toArray) below meth c0 H locs 0 0 (MQ below (mt_Qi E r M u) (([.ref (E.2.1 h)] : List Value).toArray) s 0 0 (mt_A E)) (F0 mid 4 ls [])) ?_ _ _ _ hH hS (lv_sub hl [2, 1, 0] rfl)
  intro k3 ih4 x1 x2 hf H locs ls hH hS hl
  refine lv_iload_n hx hb dX4_neverMarked_4 rfl (lv_at hl 2 rfl) ?_
  refine lv_aload_n hx hb dX4_neverMarked_5 rfl (lv_at hl 0 rfl) ?_
  refine mt_getr (C := RX4) (T := TX4) (N := 6) hx hb hts hinX4 hown hI hH (mt_T_hou hh) rfl 0 (by decide) kw0 rfl rfl dX4_neverMarked_6 ?_
  refine mt_getiN (C := RX0) (T := TX0) (N := 12) hx hb hts hinX0 hown hI hH (mt_T_cup (mt_hou_cup hh)) rfl 8 (by decide) (List.mem_of_getElem? (i := 0) rfl) rfl rfl dX4_neverMarked_9 ?_
  refine lv_icmp_ge (tgt := 48) hx hb dX4_neverMarked_12 (by decide) (fun c5 => ?_) (fun c5 => ?_)
  · have hf := mt_ifT c5 hf
    refine lv_iload_n hx hb dX4_neverMarked_48 rfl (lv_at hl 1 rfl) ?_
    have i1 := mt_so1 hf
    subst i1
    exact mt_iret hx hb hr hI hH hS hlocks dX4_neverMarked_49
  · have hf := mt_ifF c5 hf
    refine lv_aload_n hx hb dX4_neverMarked_15 rfl (lv_at hl 0 rfl) ?_
    refine mt_getr (C := RX4) (T := TX4) (N := 6) hx hb hts hinX4 hown hI hH (mt_T_hou hh) rfl 2 (by decide) kw1 rfl rfl dX4_neverMarked_16 ?_
    refine lv_iload_n hx hb dX4_neverMarked_19 rfl (lv_at hl 2 rfl) ?_
    refine mt_ciI hf (fun q6 hf => ?_)
    refine mt_iald hx hb hI hH (mt_T_houC hh) q6 dX4_neverMarked_20 ?_
    refine mt_jn1 hf (fun (x7 : Int32) => ∀ (H : Heap) (locs : List Loc) (ls : Array Slot), mt_H E M u H → va_S (mt_A E) s.heap H locs → lv_has ls 3 [(0, .ref (E.2.1 h)), (1, .int x7), (2, .int x2)] → W p l e (headSpec wsX4_neverMarked ({ frames := 0, cells := 0, slots := 0, locals := 0 } : Room)).room s mid (([.ref (E.2.1 h)] : List Value).toArray) below meth c0 H locs 0 0 (MQ below (mt_Qi E r M u) (([.ref (E.2.1 h)] : List Value).toArray) s 0 0 (mt_A E)) (F0 mid 42 ls [])) ?_ ?_
    · intro x7 hf H locs ls hH hS hl
      refine mt_ltI hf (fun x10 ex10 hf => ?_)
      refine lv_iinc (v := x10) (lv' := [(2, .int x10), (0, .ref (E.2.1 h)), (1, .int x7)]) hx hb dX4_neverMarked_42 hl (k := 2) rfl (by rw [ex10]; rfl) (by decide) rfl (fun ls hl => ?_)
      refine lv_goto (tgt := 4) hx hb dX4_neverMarked_45 (by decide) ?_
      exact ih4 x7 x10 hf _ _ _ hH hS (lv_sub hl [1, 2, 0] rfl)
    · intro j8 hj9 hf
      refine lv_if_ne (tgt := 42) hx hb dX4_neverMarked_21 (by decide) (fun c11 => ?_) (fun c11 => ?_)
      · have hf := mt_ifF c11 hf
        exact hj9 x1 hf _ _ _ hH hS (lv_sub hl [0, 1, 2] rfl)
      · have hf := mt_ifT c11 hf
        refine lv_aload_n hx hb dX4_neverMarked_24 rfl (lv_at hl 0 rfl) ?_
        refine mt_getr (C := RX4) (T := TX4) (N := 6) hx hb hts hinX4 hown hI hH (mt_T_hou hh) rfl 2 (by decide) kw1 rfl rfl dX4_neverMarked_25 ?_
        refine lv_bipush (v := 7) hx hb dX4_neverMarked_28 (by decide) ?_
        refine lv_iload_n hx hb dX4_neverMarked_30 rfl (lv_at hl 2 rfl) ?_
        refine lv_iadd hx hb dX4_neverMarked_31 ?_
        refine mt_ciI hf (fun q12 hf => ?_)
        refine mt_iald hx hb hI hH (mt_T_houC hh) q12 dX4_neverMarked_32 ?_
        refine lv_if_ne (tgt := 42) hx hb dX4_neverMarked_33 (by decide) (fun c13 => ?_) (fun c13 => ?_)
        · have hf := mt_ifF c13 hf
          exact hj9 x1 hf _ _ _ hH hS (lv_sub hl [0, 1, 2] rfl)
        · have hf := mt_ifT c13 hf
          refine lv_iload_n hx hb dX4_neverMarked_36 rfl (lv_at hl 1 rfl) ?_
          refine lv_iconst (v := 1) hx hb dX4_neverMarked_37 (by decide) ?_
          refine lv_iload_n hx hb dX4_neverMarked_38 rfl (lv_at hl 2 rfl) ?_
          refine lv_ishl hx hb dX4_neverMarked_39 ?_
          refine lv_ior hx hb dX4_neverMarked_40 ?_
          refine mt_lti hf (fun x14 ex14 hf => ?_)
          refine lv_istore_n (lv' := [(1, .int x14), (0, .ref (E.2.1 h)), (2, .int x2)]) hx hb dX4_neverMarked_41 rfl hl (by decide) rfl (fun ls hl => ?_)
          exact hj9 x14 hf _ _ _ hH hS (lv_sub hl [1, 0, 2] rfl)
set_option maxHeartbeats 4000000 in
set_option maxRecDepth 100000 in
theorem c_X4_wantedAfter (l : Launch) (E : mt_E) (h : Nat) (hh : mt_hou h) (a1 : Int32) (M : mt_M) (u : mt_U) (r : Int32) (hf : f_X4_wantedAfter h a1 M = some (r)) : Met l yX4_wantedAfter wsX4_wantedAfter ({ frames := 2, cells := 0, slots := 0, locals := 44 } : Room) (mt_P E [.ref (E.2.1 h), .int a1] M u) (mt_Qi E r M u) 0 0 (mt_A E) := by
  refine Met.ofW (cc := cX4_wantedAfter) (maxL := 4) (ret := (some .int)) (by decide) rfl ?_
  intro p e s mid args below meth c0 s₁ B hml hv
  obtain ⟨rfl, hI, hH⟩ := hv
  have hx := B.exec
  have hb := B.bytes
  have hr := B.returns
  have hts := atoms_spec (ws := wsX4_wantedAfter) B.pre
  have hown : s.vm.findClass RX4 = some mid.cls := findClass_of_methodNamed B.named
  have hlocks := B.notSynchronized
  have hS : va_S (mt_A E) s.heap s.heap [] := va_S.rf
  have hl := lv_entry ([.ref (E.2.1 h), .int a1]) (n := 4) (Nat.le_of_ble_eq_true rfl)
  rw [lg_entry_eq]
  generalize (lg_sl ([.ref (E.2.1 h), .int a1]) ++ List.replicate (4 - (lg_sl ([.ref (E.2.1 h), .int a1])).length) Slot.unset).toArray = ls at hl ⊢
  have hl : lv_has ls 4 [(0, .ref (E.2.1 h)), (1, .int a1)] := hl
  unfold f_X4_wantedAfter at hf
  have kw0 := hts (.fieldLink RX4 9 "MilkTwice$House" "wanted" "[I") (List.mem_of_getElem? (i := 1) rfl)
  have hinX4 : ∀ w ∈ u_ws RX4 TX4 6, w ∈ wsX4_wantedAfter := fun w h => List.mem_cons_of_mem _ (List.mem_append_left _ (List.mem_append_right _ h))
  refine lv_aload_n hx hb dX4_wantedAfter_0 rfl (lv_at hl 0 rfl) ?_
  refine mt_getr (C := RX4) (T := TX4) (N := 6) hx hb hts hinX4 hown hI hH (mt_T_hou hh) rfl 1 (by decide) kw0 rfl rfl dX4_wantedAfter_1 ?_
  refine lv_iconst (v := 0) hx hb dX4_wantedAfter_4 (by decide) ?_
  refine mt_iald hx hb hI hH (mt_T_houW hh) (mt_vl (by decide)) dX4_wantedAfter_5 ?_
  refine lv_aload_n hx hb dX4_wantedAfter_6 rfl (lv_at hl 0 rfl) ?_
  refine mt_getr (C := RX4) (T := TX4) (N := 6) hx hb hts hinX4 hown hI hH (mt_T_hou hh) rfl 1 (by decide) kw0 rfl rfl dX4_wantedAfter_7 ?_
  refine lv_iconst (v := 1) hx hb dX4_wantedAfter_10 (by decide) ?_
  refine mt_iald hx hb hI hH (mt_T_houW hh) (mt_vl (by decide)) dX4_wantedAfter_11 ?_
  refine lv_ior hx hb dX4_wantedAfter_12 ?_
  refine mt_lti hf (fun x1 ex1 hf => ?_)
  refine lv_istore_n (lv' := [(2, .int x1), (0, .ref (E.2.1 h)), (1, .int a1)]) hx hb dX4_wantedAfter_13 rfl hl (by decide) rfl (fun ls hl => ?_)
  refine lv_aload_n hx hb dX4_wantedAfter_14 rfl (lv_at hl 1 rfl) ?_
  refine lv_iconst (v := 2) hx hb dX4_wantedAfter_15 (by decide) ?_
  refine mt_b1I hf (fun r3 hg2 hf => ?_)
  refine mt_goi (mt_runV (i := h) (As := [.int (2 : Int32)]) (rest := []) ⟨hx, hb, hml, hown, hts⟩ hI hH (c_X4_closeTogether l E h hh (2 : Int32) M u _ hg2) (cwV 1 hts gX4_wantedAfter_X4_closeTogether rfl rfl rfl (by decide +kernel) ⟨Nat.le_of_ble_eq_true rfl, Nat.le_of_ble_eq_true rfl⟩) (mt_T_hou hh) rfl rfl hl.1 rfl (Nat.le_of_ble_eq_true rfl) dX4_wantedAfter_16 ⟨Nat.zero_le _, Nat.zero_le _⟩) hS (fun H locs hH hS => ?_)
  refine lv_istore_n (lv' := [(3, .int r3), (2, .int x1), (0, .ref (E.2.1 h)), (1, .int a1)]) hx hb dX4_wantedAfter_19 rfl hl (by decide) rfl (fun ls hl => ?_)
  refine lv_iload_n hx hb dX4_wantedAfter_20 rfl (lv_at hl 3 rfl) ?_
  by_cases c4 : a1 = (1 : Int32)
  · have hf := mt_ifT c4 hf
    refine lv_tableIn (off := 27) (tgt := 48) hx hb dX4_wantedAfter_21 (by rw [c4]; decide) (by rw [c4]; decide) (by rw [c4]; rfl) (by decide) ?_
    refine lv_iload_n hx hb dX4_wantedAfter_48 rfl (lv_at hl 1 rfl) ?_
    have i1 := mt_so1 hf
    subst i1
    exact mt_iret hx hb hr hI hH hS hlocks dX4_wantedAfter_49
  · have hf := mt_ifF c4 hf
    by_cases c5 : a1 = (2 : Int32)
    · have hf := mt_ifT c5 hf
      refine lv_tableIn (off := 29) (tgt := 50) hx hb dX4_wantedAfter_21 (by rw [c5]; decide) (by rw [c5]; decide) (by rw [c5]; rfl) (by decide) ?_
      refine lv_aload_n hx hb dX4_wantedAfter_50 rfl (lv_at hl 2 rfl) ?_
      refine mt_getr (C := RX4) (T := TX4) (N := 6) hx hb hts hinX4 hown hI hH (mt_T_hou hh) rfl 1 (by decide) kw0 rfl rfl dX4_wantedAfter_51 ?_
      refine lv_iconst (v := 0) hx hb dX4_wantedAfter_54 (by decide) ?_
      refine mt_iald hx hb hI hH (mt_T_houW hh) (mt_vl (by decide)) dX4_wantedAfter_55 ?_
      refine lv_aload_n hx hb dX4_wantedAfter_56 rfl (lv_at hl 2 rfl) ?_
      refine mt_getr (C := RX4) (T := TX4) (N := 6) hx hb hts hinX4 hown hI hH (mt_T_hou hh) rfl 1 (by decide) kw0 rfl rfl dX4_wantedAfter_57 ?_
      refine lv_iconst (v := 1) hx hb dX4_wantedAfter_60 (by decide) ?_
      refine mt_iald hx hb hI hH (mt_T_houW hh) (mt_vl (by decide)) dX4_wantedAfter_61 ?_
      refine lv_iand hx hb dX4_wantedAfter_62 ?_
      have i1 := mt_so1 hf
      subst i1
      exact mt_iret hx hb hr hI hH hS hlocks dX4_wantedAfter_63
    · have hf := mt_ifF c5 hf
      by_cases c6 : a1 = (3 : Int32)
      · have hf := mt_ifT c6 hf
        refine lv_tableIn (off := 43) (tgt := 64) hx hb dX4_wantedAfter_21 (by rw [c6]; decide) (by rw [c6]; decide) (by rw [c6]; rfl) (by decide) ?_
        refine lv_iload_n hx hb dX4_wantedAfter_64 rfl (lv_at hl 1 rfl) ?_
        refine lv_iload_n hx hb dX4_wantedAfter_65 rfl (lv_at hl 0 rfl) ?_
        refine lv_iand hx hb dX4_wantedAfter_66 ?_
        refine lv_aload_n hx hb dX4_wantedAfter_67 rfl (lv_at hl 2 rfl) ?_
        refine lv_iconst (v := 0) hx hb dX4_wantedAfter_68 (by decide) ?_
        refine mt_b1I hf (fun r8 hg7 hf => ?_)
        refine mt_goi (mt_runV (i := h) (As := [.int (0 : Int32)]) (rest := [.int (x1 &&& r3)]) ⟨hx, hb, hml, hown, hts⟩ hI hH (c_X4_laterWants l E h hh (0 : Int32) M u _ hg7) (cwV 1 hts gX4_wantedAfter_X4_laterWants rfl rfl rfl (by decide +kernel) ⟨Nat.le_of_ble_eq_true rfl, Nat.le_of_ble_eq_true rfl⟩) (mt_T_hou hh) rfl rfl hl.1 rfl (Nat.le_of_ble_eq_true rfl) dX4_wantedAfter_69 ⟨Nat.zero_le _, Nat.zero_le _⟩) hS (fun H locs hH hS => ?_)
        refine lv_iload_n hx hb dX4_wantedAfter_72 rfl (lv_at hl 0 rfl) ?_
        refine lv_iconst (v := (-1)) hx hb dX4_wantedAfter_73 (by decide) ?_
        refine lv_ixor hx hb dX4_wantedAfter_74 ?_
        refine lv_iand hx hb dX4_wantedAfter_75 ?_
        refine lv_ior hx hb dX4_wantedAfter_76 ?_
        have i1 := mt_so1 hf
        subst i1
        exact mt_iret hx hb hr hI hH hS hlocks dX4_wantedAfter_77
      · have hf := mt_ifF c6 hf
        refine lv_tableOut (tgt := 78) hx hb dX4_wantedAfter_21 (mt_tabOut (1) (3) (by decide) (by decide) (fun n hn => ?_)) (by decide) ?_
        · rcases (show n = 0 ∨ n = 1 ∨ n = 2 from by omega) with rfl | rfl | rfl
          · exact fun e9 => c4 (e9.trans (by decide))
          · exact fun e9 => c5 (e9.trans (by decide))
          · exact fun e9 => c6 (e9.trans (by decide))
        · refine lv_aload_n hx hb dX4_wantedAfter_78 rfl (lv_at hl 2 rfl) ?_
          refine lv_iconst (v := 0) hx hb dX4_wantedAfter_79 (by decide) ?_
          refine mt_b1I hf (fun r10 hg9 hf => ?_)
          refine mt_goi (mt_runV (i := h) (As := [.int (0 : Int32)]) (rest := []) ⟨hx, hb, hml, hown, hts⟩ hI hH (c_X4_laterWants l E h hh (0 : Int32) M u _ hg9) (cwV 1 hts gX4_wantedAfter_X4_laterWants rfl rfl rfl (by decide +kernel) ⟨Nat.le_of_ble_eq_true rfl, Nat.le_of_ble_eq_true rfl⟩) (mt_T_hou hh) rfl rfl hl.1 rfl (Nat.le_of_ble_eq_true rfl) dX4_wantedAfter_80 ⟨Nat.zero_le _, Nat.zero_le _⟩) hS (fun H locs hH hS => ?_)
          have i1 := mt_so1 hf
          subst i1
          exact mt_iret hx hb hr hI hH hS hlocks dX4_wantedAfter_83
set_option maxHeartbeats 4000000 in
set_option maxRecDepth 100000 in
theorem c_X4_lostBy (l : Launch) (E : mt_E) (h : Nat) (hh : mt_hou h) (a1 : Int32) (M : mt_M) (u : mt_U) (r : Int32) (hf : f_X4_lostBy h a1 M = some (r)) : Met l yX4_lostBy wsX4_lostBy ({ frames := 3, cells := 0, slots := 0, locals := 67 } : Room) (mt_P E [.ref (E.2.1 h), .int a1] M u) (mt_Qi E r M u) 0 0 (mt_A E) := by
  refine Met.ofW (cc := cX4_lostBy) (maxL := 2) (ret := (some .int)) (by decide) rfl ?_
  intro p e s mid args below meth c0 s₁ B hml hv
  obtain ⟨rfl, hI, hH⟩ := hv
  have hx := B.exec
  have hb := B.bytes
  have hr := B.returns
  have hts := atoms_spec (ws := wsX4_lostBy) B.pre
  have hown : s.vm.findClass RX4 = some mid.cls := findClass_of_methodNamed B.named
  have hlocks := B.notSynchronized
  have hS : va_S (mt_A E) s.heap s.heap [] := va_S.rf
  have hl := lv_entry ([.ref (E.2.1 h), .int a1]) (n := 2) (Nat.le_of_ble_eq_true rfl)
  rw [lg_entry_eq]
  generalize (lg_sl ([.ref (E.2.1 h), .int a1]) ++ List.replicate (2 - (lg_sl ([.ref (E.2.1 h), .int a1])).length) Slot.unset).toArray = ls at hl ⊢
  have hl : lv_has ls 2 [(0, .ref (E.2.1 h)), (1, .int a1)] := hl
  unfold f_X4_lostBy at hf
  refine lv_aload_n hx hb dX4_lostBy_0 rfl (lv_at hl 0 rfl) ?_
  refine lv_iconst (v := 0) hx hb dX4_lostBy_1 (by decide) ?_
  refine mt_b1I hf (fun r2 hg1 hf => ?_)
  refine mt_goi (mt_runV (i := h) (As := [.int (0 : Int32)]) (rest := []) ⟨hx, hb, hml, hown, hts⟩ hI hH (c_X4_laterWants l E h hh (0 : Int32) M u _ hg1) (cwV 1 hts gX4_lostBy_X4_laterWants rfl rfl rfl (by decide +kernel) ⟨Nat.le_of_ble_eq_true rfl, Nat.le_of_ble_eq_true rfl⟩) (mt_T_hou hh) rfl rfl hl.1 rfl (Nat.le_of_ble_eq_true rfl) dX4_lostBy_2 ⟨Nat.zero_le _, Nat.zero_le _⟩) hS (fun H locs hH hS => ?_)
  refine lv_aload_n hx hb dX4_lostBy_5 rfl (lv_at hl 0 rfl) ?_
  refine lv_iload_n hx hb dX4_lostBy_6 rfl (lv_at hl 1 rfl) ?_
  refine mt_b1I hf (fun r4 hg3 hf => ?_)
  refine mt_goi (mt_runV (i := h) (As := [.int a1]) (rest := [.int r2]) ⟨hx, hb, hml, hown, hts⟩ hI hH (c_X4_wantedAfter l E h hh a1 M u _ hg3) (cwV 1 hts gX4_lostBy_X4_wantedAfter rfl rfl rfl (by decide +kernel) ⟨Nat.le_of_ble_eq_true rfl, Nat.le_of_ble_eq_true rfl⟩) (mt_T_hou hh) rfl rfl hl.1 rfl (Nat.le_of_ble_eq_true rfl) dX4_lostBy_7 ⟨Nat.zero_le _, Nat.zero_le _⟩) hS (fun H locs hH hS => ?_)
  refine lv_iconst (v := (-1)) hx hb dX4_lostBy_10 (by decide) ?_
  refine lv_ixor hx hb dX4_lostBy_11 ?_
  refine lv_iand hx hb dX4_lostBy_12 ?_
  have i1 := mt_so1 hf
  subst i1
  exact mt_iret hx hb hr hI hH hS hlocks dX4_lostBy_13
set_option maxHeartbeats 4000000 in
set_option maxRecDepth 100000 in
theorem c_X4_broughtBackBy (l : Launch) (E : mt_E) (h : Nat) (hh : mt_hou h) (a1 : Int32) (M : mt_M) (u : mt_U) (r : Int32) (hf : f_X4_broughtBackBy h a1 M = some (r)) : Met l yX4_broughtBackBy wsX4_broughtBackBy ({ frames := 3, cells := 0, slots := 0, locals := 67 } : Room) (mt_P E [.ref (E.2.1 h), .int a1] M u) (mt_Qi E r M u) 0 0 (mt_A E) := by
  refine Met.ofW (cc := cX4_broughtBackBy) (maxL := 2) (ret := (some .int)) (by decide) rfl ?_
  intro p e s mid args below meth c0 s₁ B hml hv
  obtain ⟨rfl, hI, hH⟩ := hv
  have hx := B.exec
  have hb := B.bytes
  have hr := B.returns
  have hts := atoms_spec (ws := wsX4_broughtBackBy) B.pre
  have hown : s.vm.findClass RX4 = some mid.cls := findClass_of_methodNamed B.named
  have hlocks := B.notSynchronized
  have hS : va_S (mt_A E) s.heap s.heap [] := va_S.rf
  have hl := lv_entry ([.ref (E.2.1 h), .int a1]) (n := 2) (Nat.le_of_ble_eq_true rfl)
  rw [lg_entry_eq]
  generalize (lg_sl ([.ref (E.2.1 h), .int a1]) ++ List.replicate (2 - (lg_sl ([.ref (E.2.1 h), .int a1])).length) Slot.unset).toArray = ls at hl ⊢
  have hl : lv_has ls 2 [(0, .ref (E.2.1 h)), (1, .int a1)] := hl
  unfold f_X4_broughtBackBy at hf
  refine lv_aload_n hx hb dX4_broughtBackBy_0 rfl (lv_at hl 0 rfl) ?_
  refine lv_iload_n hx hb dX4_broughtBackBy_1 rfl (lv_at hl 1 rfl) ?_
  refine mt_b1I hf (fun r2 hg1 hf => ?_)
  refine mt_goi (mt_runV (i := h) (As := [.int a1]) (rest := []) ⟨hx, hb, hml, hown, hts⟩ hI hH (c_X4_wantedAfter l E h hh a1 M u _ hg1) (cwV 1 hts gX4_broughtBackBy_X4_wantedAfter rfl rfl rfl (by decide +kernel) ⟨Nat.le_of_ble_eq_true rfl, Nat.le_of_ble_eq_true rfl⟩) (mt_T_hou hh) rfl rfl hl.1 rfl (Nat.le_of_ble_eq_true rfl) dX4_broughtBackBy_2 ⟨Nat.zero_le _, Nat.zero_le _⟩) hS (fun H locs hH hS => ?_)
  refine lv_aload_n hx hb dX4_broughtBackBy_5 rfl (lv_at hl 0 rfl) ?_
  refine lv_iconst (v := 0) hx hb dX4_broughtBackBy_6 (by decide) ?_
  refine mt_b1I hf (fun r4 hg3 hf => ?_)
  refine mt_goi (mt_runV (i := h) (As := [.int (0 : Int32)]) (rest := [.int r2]) ⟨hx, hb, hml, hown, hts⟩ hI hH (c_X4_laterWants l E h hh (0 : Int32) M u _ hg3) (cwV 1 hts gX4_broughtBackBy_X4_laterWants rfl rfl rfl (by decide +kernel) ⟨Nat.le_of_ble_eq_true rfl, Nat.le_of_ble_eq_true rfl⟩) (mt_T_hou hh) rfl rfl hl.1 rfl (Nat.le_of_ble_eq_true rfl) dX4_broughtBackBy_7 ⟨Nat.zero_le _, Nat.zero_le _⟩) hS (fun H locs hH hS => ?_)
  refine lv_iconst (v := (-1)) hx hb dX4_broughtBackBy_10 (by decide) ?_
  refine lv_ixor hx hb dX4_broughtBackBy_11 ?_
  refine lv_iand hx hb dX4_broughtBackBy_12 ?_
  have i1 := mt_so1 hf
  subst i1
  exact mt_iret hx hb hr hI hH hS hlocks dX4_broughtBackBy_13

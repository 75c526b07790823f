/-! THE WALKS, laid by program: each method returns what its pure function says, and leaves the memory so -/
set_option maxHeartbeats 4000000 in
set_option maxRecDepth 100000 in
theorem c_X11_power (l : Launch) (E : mt_E) (a0 : Int32) (a1 : Int32) (M : mt_M) (u : mt_U) (r : Int64) (hf : f_X11_power a0 a1 = some (r)) : Met l yX11_power wsX11_power ({ frames := 0, cells := 0, slots := 0, locals := 0 } : Room) (mt_P E [.int a0, .int a1] M u) (mt_Ql E r M u) 0 0 (mt_A E) := by
  refine Met.ofW (cc := cX11_power) (maxL := 5) (ret := (some .long)) (by decide) rfl ?_
  intro p e s mid args below meth c0 s₁ B hml hv
  obtain ⟨rfl, hI, hH⟩ := hv
  have hx := B.exec
  have hb := B.bytes
  have hr := B.returns
  have hts := atoms_spec (ws := wsX11_power) B.pre
  have hown : s.vm.findClass RX11 = some mid.cls := findClass_of_methodNamed B.named
  have hlocks := B.notSynchronized
  have hS : va_S (mt_A E) s.heap s.heap [] := va_S.rf
  have hl := lv_entry ([.int a0, .int a1]) (n := 5) (Nat.le_of_ble_eq_true rfl)
  rw [lg_entry_eq]
  generalize (lg_sl ([.int a0, .int a1]) ++ List.replicate (5 - (lg_sl ([.int a0, .int a1])).length) Slot.unset).toArray = ls at hl ⊢
  have hl : lv_has ls 5 [(0, .int a0), (1, .int a1)] := hl
  unfold f_X11_power at hf
  refine lv_lconst (v := 1) hx hb dX11_power_0 (by decide) ?_
  refine lv_lstore_n (lv' := [(2, .long (1 : Int64)), (0, .int a0), (1, .int a1)]) hx hb dX11_power_1 rfl hl (by decide) rfl (fun ls hl => ?_)
  refine lv_iconst (v := 0) hx hb dX11_power_2 (by decide) ?_
  refine lv_istore (lv' := [(4, .int (0 : Int32)), (2, .long (1 : Int64)), (0, .int a0), (1, .int a1)]) hx hb dX11_power_3 hl (by decide) rfl (fun ls hl => ?_)
  refine mt_lpI2 hf (fun (x1 : Int64) (x2 : Int32) => ∀ (H : Heap) (locs : List Loc) (ls : Array Slot), mt_H E M u H → va_S (mt_A E) s.heap H locs → lv_has ls 5 [(0, .int a0), (1, .int a1), (2, .long x1), (4, .int x2)] → W p l e (headSpec wsX11_power ({ frames := 0, cells := 0, slots := 0, locals := 0 } : Room)).room s mid (([.int a0, .int a1] : List Value).toArray) below meth c0 H locs 0 0 (MQ below (mt_Ql E r M u) (([.int a0, .int a1] : List Value).toArray) s 0 0 (mt_A E)) (F0 mid 5 ls [])) ?_ _ _ _ hH hS (lv_sub hl [2, 3, 1, 0] rfl)
  intro k3 ih4 x1 x2 hf H locs ls hH hS hl
  refine lv_iload hx hb dX11_power_5 (lv_at hl 3 rfl) ?_
  refine lv_iload_n hx hb dX11_power_7 rfl (lv_at hl 1 rfl) ?_
  refine lv_icmp_ge (tgt := 22) hx hb dX11_power_8 (by decide) (fun c5 => ?_) (fun c5 => ?_)
  · have hf := mt_ifT c5 hf
    refine lv_lload_n hx hb dX11_power_22 rfl (lv_at hl 2 rfl) ?_
    have i1 := mt_so1 hf
    subst i1
    exact mt_lret hx hb hr hI hH hS hlocks dX11_power_23
  · have hf := mt_ifF c5 hf
    refine lv_lload_n hx hb dX11_power_11 rfl (lv_at hl 2 rfl) ?_
    refine lv_iload_n hx hb dX11_power_12 rfl (lv_at hl 0 rfl) ?_
    refine lv_i2l (v := ((a0).toInt64)) hx hb dX11_power_13 rfl ?_
    refine lv_lmul hx hb dX11_power_14 ?_
    refine mt_ltl hf (fun x6 ex6 hf => ?_)
    refine lv_lstore_n (lv' := [(2, .long x6), (0, .int a0), (1, .int a1), (4, .int x2)]) hx hb dX11_power_15 rfl hl (by decide) rfl (fun ls hl => ?_)
    refine mt_ltI hf (fun x7 ex7 hf => ?_)
    refine lv_iinc (v := x7) (lv' := [(4, .int x7), (2, .long x6), (0, .int a0), (1, .int a1)]) hx hb dX11_power_16 hl (k := 3) rfl (by rw [ex7]; rfl) (by decide) rfl (fun ls hl => ?_)
    refine lv_goto (tgt := 5) hx hb dX11_power_19 (by decide) ?_
    exact ih4 x6 x7 hf _ _ _ hH hS (lv_sub hl [2, 3, 1, 0] rfl)
set_option maxHeartbeats 4000000 in
set_option maxRecDepth 100000 in
theorem c_X11_greatestDivisor (l : Launch) (E : mt_E) (a0 : Int64) (a2 : Int64) (M : mt_M) (u : mt_U) (r : Int64) (hf : f_X11_greatestDivisor a0 a2 = some (r)) : Met l yX11_greatestDivisor wsX11_greatestDivisor ({ frames := 0, cells := 0, slots := 0, locals := 0 } : Room) (mt_P E [.long a0, .long a2] M u) (mt_Ql E r M u) 0 0 (mt_A E) := by
  refine Met.ofW (cc := cX11_greatestDivisor) (maxL := 11) (ret := (some .long)) (by decide) rfl ?_
  intro p e s mid args below meth c0 s₁ B hml hv
  obtain ⟨rfl, hI, hH⟩ := hv
  have hx := B.exec
  have hb := B.bytes
  have hr := B.returns
  have hts := atoms_spec (ws := wsX11_greatestDivisor) B.pre
  have hown : s.vm.findClass RX11 = some mid.cls := findClass_of_methodNamed B.named
  have hlocks := B.notSynchronized
  have hS : va_S (mt_A E) s.heap s.heap [] := va_S.rf
  have hl := lv_entry ([.long a0, .long a2]) (n := 11) (Nat.le_of_ble_eq_true rfl)
  rw [lg_entry_eq]
  generalize (lg_sl ([.long a0, .long a2]) ++ List.replicate (11 - (lg_sl ([.long a0, .long a2])).length) Slot.unset).toArray = ls at hl ⊢
  have hl : lv_has ls 11 [(0, .long a0), (2, .long a2)] := hl
  unfold f_X11_greatestDivisor at hf
  refine lv_lload_n hx hb dX11_greatestDivisor_0 rfl (lv_at hl 0 rfl) ?_
  refine lv_lstore (lv' := [(4, .long a0), (0, .long a0), (2, .long a2)]) hx hb dX11_greatestDivisor_1 hl (by decide) rfl (fun ls hl => ?_)
  refine lv_lload_n hx hb dX11_greatestDivisor_3 rfl (lv_at hl 2 rfl) ?_
  refine lv_lstore (lv' := [(6, .long a2), (4, .long a0), (0, .long a0), (2, .long a2)]) hx hb dX11_greatestDivisor_4 hl (by decide) rfl (fun ls hl => ?_)
  refine lv_iconst (v := 0) hx hb dX11_greatestDivisor_6 (by decide) ?_
  refine lv_istore (lv' := [(8, .int (0 : Int32)), (6, .long a2), (4, .long a0), (0, .long a0), (2, .long a2)]) hx hb dX11_greatestDivisor_7 hl (by decide) rfl (fun ls hl => ?_)
  refine mt_lpI3 hf (fun (x1 : Int64) (x2 : Int64) (x3 : Int32) => ∀ (H : Heap) (locs : List Loc) (ls : Array Slot), mt_H E M u H → va_S (mt_A E) s.heap H locs → lv_has ls 11 [(4, .long x1), (6, .long x2), (8, .int x3)] → W p l e (headSpec wsX11_greatestDivisor ({ frames := 0, cells := 0, slots := 0, locals := 0 } : Room)).room s mid (([.long a0, .long a2] : List Value).toArray) below meth c0 H locs 0 0 (MQ below (mt_Ql E r M u) (([.long a0, .long a2] : List Value).toArray) s 0 0 (mt_A E)) (F0 mid 9 ls [])) ?_ _ _ _ hH hS (lv_sub hl [2, 1, 0] rfl)
  intro k4 ih5 x1 x2 x3 hf H locs ls hH hS hl
  refine lv_iload hx hb dX11_greatestDivisor_9 (lv_at hl 2 rfl) ?_
  refine lv_sipush (v := 1000) hx hb dX11_greatestDivisor_11 (by decide) ?_
  refine lv_icmp_ge (tgt := 45) hx hb dX11_greatestDivisor_14 (by decide) (fun c6 => ?_) (fun c6 => ?_)
  · have hf := mt_ifT c6 hf
    refine lv_lload hx hb dX11_greatestDivisor_45 (lv_at hl 0 rfl) ?_
    have i1 := mt_so1 hf
    subst i1
    exact mt_lret hx hb hr hI hH hS hlocks dX11_greatestDivisor_47
  · have hf := mt_ifF c6 hf
    refine lv_lload hx hb dX11_greatestDivisor_17 (lv_at hl 1 rfl) ?_
    refine lv_lconst (v := 0) hx hb dX11_greatestDivisor_19 (by decide) ?_
    refine W.lcmp hx hb dX11_greatestDivisor_20 ?_
    refine lv_if_eq (tgt := 45) hx hb dX11_greatestDivisor_21 (by decide) (fun c7 => ?_) (fun c7 => ?_)
    · have hf := mt_ifT c7 hf
      refine lv_lload hx hb dX11_greatestDivisor_45 (lv_at hl 0 rfl) ?_
      have i1 := mt_so1 hf
      subst i1
      exact mt_lret hx hb hr hI hH hS hlocks dX11_greatestDivisor_47
    · have hf := mt_ifF c7 hf
      refine lv_lload hx hb dX11_greatestDivisor_24 (lv_at hl 0 rfl) ?_
      refine lv_lload hx hb dX11_greatestDivisor_26 (lv_at hl 1 rfl) ?_
      refine mt_ckI hf (fun q8 hf => ?_)
      refine lv_lrem hx hb dX11_greatestDivisor_28 q8 ?_
      refine mt_ltl hf (fun x9 ex9 hf => ?_)
      refine lv_lstore (lv' := [(9, .long x9), (4, .long x1), (6, .long x2), (8, .int x3)]) hx hb dX11_greatestDivisor_29 hl (by decide) rfl (fun ls hl => ?_)
      refine lv_lload hx hb dX11_greatestDivisor_31 (lv_at hl 2 rfl) ?_
      refine lv_lstore (lv' := [(4, .long x2), (9, .long x9), (6, .long x2), (8, .int x3)]) hx hb dX11_greatestDivisor_33 hl (by decide) rfl (fun ls hl => ?_)
      refine lv_lload hx hb dX11_greatestDivisor_35 (lv_at hl 1 rfl) ?_
      refine lv_lstore (lv' := [(6, .long x9), (4, .long x2), (9, .long x9), (8, .int x3)]) hx hb dX11_greatestDivisor_37 hl (by decide) rfl (fun ls hl => ?_)
      refine mt_ltI hf (fun x10 ex10 hf => ?_)
      refine lv_iinc (v := x10) (lv' := [(8, .int x10), (6, .long x9), (4, .long x2), (9, .long x9)]) hx hb dX11_greatestDivisor_39 hl (k := 3) rfl (by rw [ex10]; rfl) (by decide) rfl (fun ls hl => ?_)
      refine lv_goto (tgt := 9) hx hb dX11_greatestDivisor_42 (by decide) ?_
      exact ih5 x2 x9 x10 hf _ _ _ hH hS (lv_sub hl [2, 1, 0] rfl)
set_option maxHeartbeats 4000000 in
set_option maxRecDepth 100000 in
theorem c_X11_partOf (l : Launch) (E : mt_E) (a0 : Int64) (a2 : Int64) (a4 : Int32) (M : mt_M) (u : mt_U) (r : Int64) (hf : f_X11_partOf a0 a2 a4 = some (r)) : Met l yX11_partOf wsX11_partOf ({ frames := 1, cells := 0, slots := 0, locals := 30 } : Room) (mt_P E [.long a0, .long a2, .int a4] M u) (mt_Ql E r M u) 0 0 (mt_A E) := by
  refine Met.ofW (cc := cX11_partOf) (maxL := 9) (ret := (some .long)) (by decide) rfl ?_
  intro p e s mid args below meth c0 s₁ B hml hv
  obtain ⟨rfl, hI, hH⟩ := hv
  have hx := B.exec
  have hb := B.bytes
  have hr := B.returns
  have hts := atoms_spec (ws := wsX11_partOf) B.pre
  have hown : s.vm.findClass RX11 = some mid.cls := findClass_of_methodNamed B.named
  have hlocks := B.notSynchronized
  have hS : va_S (mt_A E) s.heap s.heap [] := va_S.rf
  have hl := lv_entry ([.long a0, .long a2, .int a4]) (n := 9) (Nat.le_of_ble_eq_true rfl)
  rw [lg_entry_eq]
  generalize (lg_sl ([.long a0, .long a2, .int a4]) ++ List.replicate (9 - (lg_sl ([.long a0, .long a2, .int a4])).length) Slot.unset).toArray = ls at hl ⊢
  have hl : lv_has ls 9 [(0, .long a0), (2, .long a2), (4, .int a4)] := hl
  unfold f_X11_partOf at hf
  refine lv_lload_n hx hb dX11_partOf_0 rfl (lv_at hl 0 rfl) ?_
  refine lv_lload_n hx hb dX11_partOf_1 rfl (lv_at hl 1 rfl) ?_
  refine mt_b1I hf (fun r2 hg1 hf => ?_)
  refine mt_gol (mt_runS (As := [.long a0, .long a2]) (rest := []) ⟨hx, hb, hml, hown, hts⟩ hI hH (c_X11_greatestDivisor l E a0 a2 M u _ hg1) (va_cwS 2 hts gX11_partOf_X11_greatestDivisor rfl rfl rfl (by decide +kernel) ⟨Nat.le_of_ble_eq_true rfl, Nat.le_of_ble_eq_true rfl⟩) rfl hl.1 rfl (Nat.le_of_ble_eq_true rfl) dX11_partOf_2 ⟨Nat.zero_le _, Nat.zero_le _⟩) hS (fun H locs hH hS => ?_)
  refine lv_lstore (lv' := [(5, .long r2), (0, .long a0), (2, .long a2), (4, .int a4)]) hx hb dX11_partOf_5 hl (by decide) rfl (fun ls hl => ?_)
  refine lv_iload hx hb dX11_partOf_7 (lv_at hl 3 rfl) ?_
  refine mt_jn1 hf (fun (v3 : Int64) => ∀ (H : Heap) (locs : List Loc) (ls : Array Slot), mt_H E M u H → va_S (mt_A E) s.heap H locs → lv_has ls 9 [(5, .long r2)] → W p l e (headSpec wsX11_partOf ({ frames := 1, cells := 0, slots := 0, locals := 30 } : Room)).room s mid (([.long a0, .long a2, .int a4] : List Value).toArray) below meth c0 H locs 0 0 (MQ below (mt_Ql E r M u) (([.long a0, .long a2, .int a4] : List Value).toArray) s 0 0 (mt_A E)) (F0 mid 17 ls [.long v3])) ?_ ?_
  · intro v3 hf H locs ls hH hS hl
    refine lv_lstore (lv' := [(7, .long v3), (5, .long r2)]) hx hb dX11_partOf_17 hl (by decide) rfl (fun ls hl => ?_)
    refine lv_lload hx hb dX11_partOf_19 (lv_at hl 1 rfl) ?_
    refine lv_lconst (v := 0) hx hb dX11_partOf_21 (by decide) ?_
    refine W.lcmp hx hb dX11_partOf_22 ?_
    refine lv_if_le (tgt := 34) hx hb dX11_partOf_23 (by decide) (fun c6 => ?_) (fun c6 => ?_)
    · have hf := mt_ifT c6 hf
      refine lv_lload hx hb dX11_partOf_34 (lv_at hl 0 rfl) ?_
      have i1 := mt_so1 hf
      subst i1
      exact mt_lret hx hb hr hI hH hS hlocks dX11_partOf_36
    · have hf := mt_ifF c6 hf
      refine lv_lload hx hb dX11_partOf_26 (lv_at hl 0 rfl) ?_
      refine lv_lload hx hb dX11_partOf_28 (lv_at hl 1 rfl) ?_
      refine mt_ckI hf (fun q7 hf => ?_)
      refine lv_ldiv hx hb dX11_partOf_30 q7 ?_
      refine lv_goto (tgt := 36) hx hb dX11_partOf_31 (by decide) ?_
      have i1 := mt_so1 hf
      subst i1
      exact mt_lret hx hb hr hI hH hS hlocks dX11_partOf_36
  · intro j4 hj5 hf
    refine lv_if_ne (tgt := 16) hx hb dX11_partOf_9 (by decide) (fun c8 => ?_) (fun c8 => ?_)
    · have hf := mt_ifF c8 hf
      refine lv_lload_n hx hb dX11_partOf_16 rfl (lv_at hl 2 rfl) ?_
      exact hj5 a2 hf _ _ _ hH hS (lv_sub hl [0] rfl)
    · have hf := mt_ifT c8 hf
      refine lv_lload_n hx hb dX11_partOf_12 rfl (lv_at hl 1 rfl) ?_
      refine lv_goto (tgt := 17) hx hb dX11_partOf_13 (by decide) ?_
      exact hj5 a0 hf _ _ _ hH hS (lv_sub hl [0] rfl)
set_option maxHeartbeats 4000000 in
set_option maxRecDepth 100000 in
theorem c_X11_flour (l : Launch) (E : mt_E) (a1 : Int32) (a2 : Int32) (a3 : Int32) (a4 : Int32) (M : mt_M) (u : mt_U) (r : Int64) (M' : mt_M) (hf : f_X11_flour a1 a2 a3 a4 M = some (r, M')) : Met l yX11_flour wsX11_flour ({ frames := 2, cells := 0, slots := 0, locals := 58 } : Room) (mt_P E [.ref (E.2.1 0), .int a1, .int a2, .int a3, .int a4] M u) (mt_Ql E r M' u) 0 0 (mt_A E) := by
  refine Met.ofW (cc := cX11_flour) (maxL := 10) (ret := (some .long)) (by decide) rfl ?_
  intro p e s mid args below meth c0 s₁ B hml hv
  obtain ⟨rfl, hI, hH⟩ := hv
  have hx := B.exec
  have hb := B.bytes
  have hr := B.returns
  have hts := atoms_spec (ws := wsX11_flour) B.pre
  have hown : s.vm.findClass RX11 = some mid.cls := findClass_of_methodNamed B.named
  have hlocks := B.notSynchronized
  have hS : va_S (mt_A E) s.heap s.heap [] := va_S.rf
  have hl := lv_entry ([.ref (E.2.1 0), .int a1, .int a2, .int a3, .int a4]) (n := 10) (Nat.le_of_ble_eq_true rfl)
  rw [lg_entry_eq]
  generalize (lg_sl ([.ref (E.2.1 0), .int a1, .int a2, .int a3, .int a4]) ++ List.replicate (10 - (lg_sl ([.ref (E.2.1 0), .int a1, .int a2, .int a3, .int a4])).length) Slot.unset).toArray = ls at hl ⊢
  have hl : lv_has ls 10 [(0, .ref (E.2.1 0)), (1, .int a1), (2, .int a2), (3, .int a3), (4, .int a4)] := hl
  unfold f_X11_flour at hf
  refine lv_iload_n hx hb dX11_flour_0 rfl (lv_at hl 1 rfl) ?_
  refine mt_jn0 hf (∀ (H : Heap) (locs : List Loc) (ls : Array Slot), mt_H E M u H → va_S (mt_A E) s.heap H locs → lv_has ls 10 [(0, .ref (E.2.1 0))] → W p l e (headSpec wsX11_flour ({ frames := 2, cells := 0, slots := 0, locals := 58 } : Room)).room s mid (([.ref (E.2.1 0), .int a1, .int a2, .int a3, .int a4] : List Value).toArray) below meth c0 H locs 0 0 (MQ below (mt_Ql E r M' u) (([.ref (E.2.1 0), .int a1, .int a2, .int a3, .int a4] : List Value).toArray) s 0 0 (mt_A E)) (F0 mid 12 ls [])) ?_ ?_
  · intro hf H locs ls hH hS hl
    refine lv_aload_n hx hb dX11_flour_12 rfl (lv_at hl 0 rfl) ?_
    refine lv_bipush (v := (-4)) hx hb dX11_flour_13 (by decide) ?_
    refine mt_b2I hf (fun r4 M5 hg3 hf => ?_)
    refine mt_gol (mt_runV (i := 0) (As := [.int (-4 : Int32)]) (rest := []) ⟨hx, hb, hml, hown, hts⟩ hI hH (c_X11_refuseLong l E (-4 : Int32) M u _ _ hg3) (cwV 1 hts gX11_flour_X11_refuseLong rfl rfl rfl (by decide +kernel) ⟨Nat.le_of_ble_eq_true rfl, Nat.le_of_ble_eq_true rfl⟩) mt_T0 rfl rfl hl.1 rfl (Nat.le_of_ble_eq_true rfl) dX11_flour_15 ⟨Nat.zero_le _, Nat.zero_le _⟩) hS (fun H locs hH hS => ?_)
    obtain ⟨i1, i2⟩ := mt_so2 hf
    subst i1
    subst i2
    exact mt_lret hx hb hr hI hH hS hlocks dX11_flour_18
  · intro j1 hj2 hf
    refine lv_if_lt (tgt := 12) hx hb dX11_flour_1 (by decide) (fun c6 => ?_) (fun c6 => ?_)
    · have hf := mt_ifT c6 hf
      exact hj2 hf _ _ _ hH hS (lv_sub hl [0] rfl)
    · have hf := mt_ifF c6 hf
      refine lv_iload_n hx hb dX11_flour_4 rfl (lv_at hl 2 rfl) ?_
      refine lv_if_lt (tgt := 12) hx hb dX11_flour_5 (by decide) (fun c7 => ?_) (fun c7 => ?_)
      · have hf := mt_ifT c7 hf
        exact hj2 hf _ _ _ hH hS (lv_sub hl [0] rfl)
      · have hf := mt_ifF c7 hf
        refine lv_iload_n hx hb dX11_flour_8 rfl (lv_at hl 3 rfl) ?_
        refine lv_if_ge (tgt := 19) hx hb dX11_flour_9 (by decide) (fun c8 => ?_) (fun c8 => ?_)
        · have hf := mt_ifT c8 hf
          refine lv_iload_n hx hb dX11_flour_19 rfl (lv_at hl 1 rfl) ?_
          refine lv_bipush (v := 9) hx hb dX11_flour_20 (by decide) ?_
          refine mt_jn0 hf (∀ (H : Heap) (locs : List Loc) (ls : Array Slot), mt_H E M u H → va_S (mt_A E) s.heap H locs → lv_has ls 10 [(0, .ref (E.2.1 0))] → W p l e (headSpec wsX11_flour ({ frames := 2, cells := 0, slots := 0, locals := 58 } : Room)).room s mid (([.ref (E.2.1 0), .int a1, .int a2, .int a3, .int a4] : List Value).toArray) below meth c0 H locs 0 0 (MQ below (mt_Ql E r M' u) (([.ref (E.2.1 0), .int a1, .int a2, .int a3, .int a4] : List Value).toArray) s 0 0 (mt_A E)) (F0 mid 37 ls [])) ?_ ?_
          · intro hf H locs ls hH hS hl
            refine lv_aload_n hx hb dX11_flour_37 rfl (lv_at hl 0 rfl) ?_
            refine lv_bipush (v := (-6)) hx hb dX11_flour_38 (by decide) ?_
            refine mt_b2I hf (fun r12 M13 hg11 hf => ?_)
            refine mt_gol (mt_runV (i := 0) (As := [.int (-6 : Int32)]) (rest := []) ⟨hx, hb, hml, hown, hts⟩ hI hH (c_X11_refuseLong l E (-6 : Int32) M u _ _ hg11) (cwV 1 hts gX11_flour_X11_refuseLong rfl rfl rfl (by decide +kernel) ⟨Nat.le_of_ble_eq_true rfl, Nat.le_of_ble_eq_true rfl⟩) mt_T0 rfl rfl hl.1 rfl (Nat.le_of_ble_eq_true rfl) dX11_flour_40 ⟨Nat.zero_le _, Nat.zero_le _⟩) hS (fun H locs hH hS => ?_)
            obtain ⟨i1, i2⟩ := mt_so2 hf
            subst i1
            subst i2
            exact mt_lret hx hb hr hI hH hS hlocks dX11_flour_43
          · intro j9 hj10 hf
            refine lv_icmp_gt (tgt := 37) hx hb dX11_flour_22 (by decide) (fun c14 => ?_) (fun c14 => ?_)
            · have hf := mt_ifT c14 hf
              exact hj10 hf _ _ _ hH hS (lv_sub hl [0] rfl)
            · have hf := mt_ifF c14 hf
              refine lv_iload_n hx hb dX11_flour_25 rfl (lv_at hl 2 rfl) ?_
              refine lv_bipush (v := 12) hx hb dX11_flour_26 (by decide) ?_
              refine lv_icmp_gt (tgt := 37) hx hb dX11_flour_28 (by decide) (fun c15 => ?_) (fun c15 => ?_)
              · have hf := mt_ifT c15 hf
                exact hj10 hf _ _ _ hH hS (lv_sub hl [0] rfl)
              · have hf := mt_ifF c15 hf
                refine lv_iload_n hx hb dX11_flour_31 rfl (lv_at hl 3 rfl) ?_
                refine lv_bipush (v := 10) hx hb dX11_flour_32 (by decide) ?_
                refine lv_icmp_le (tgt := 44) hx hb dX11_flour_34 (by decide) (fun c16 => ?_) (fun c16 => ?_)
                · have hf := mt_ifT c16 hf
                  refine lv_iload hx hb dX11_flour_44 (lv_at hl 4 rfl) ?_
                  refine lv_iconst (v := 1) hx hb dX11_flour_46 (by decide) ?_
                  refine mt_b1I hf (fun r18 hg17 hf => ?_)
                  refine mt_goi (mt_runS (As := [.int a4, .int (1 : Int32)]) (rest := []) ⟨hx, hb, hml, hown, hts⟩ hI hH (c_X11_isOneOf l E a4 (1 : Int32) M u _ hg17) (va_cwS 2 hts gX11_flour_X11_isOneOf rfl rfl rfl (by decide +kernel) ⟨Nat.le_of_ble_eq_true rfl, Nat.le_of_ble_eq_true rfl⟩) rfl hl.1 rfl (Nat.le_of_ble_eq_true rfl) dX11_flour_47 ⟨Nat.zero_le _, Nat.zero_le _⟩) hS (fun H locs hH hS => ?_)
                  refine lv_if_ne (tgt := 60) hx hb dX11_flour_50 (by decide) (fun c19 => ?_) (fun c19 => ?_)
                  · have hf := mt_ifF c19 hf
                    refine lv_lconst (v := 0) hx hb dX11_flour_60 (by decide) ?_
                    refine lv_lstore (lv' := [(5, .long (0 : Int64)), (0, .ref (E.2.1 0)), (1, .int a1), (2, .int a2), (3, .int a3), (4, .int a4)]) hx hb dX11_flour_61 hl (by decide) rfl (fun ls hl => ?_)
                    refine lv_lconst (v := 1) hx hb dX11_flour_63 (by decide) ?_
                    refine lv_lstore (lv' := [(7, .long (1 : Int64)), (5, .long (0 : Int64)), (0, .ref (E.2.1 0)), (1, .int a1), (2, .int a2), (3, .int a3), (4, .int a4)]) hx hb dX11_flour_64 hl (by decide) rfl (fun ls hl => ?_)
                    refine lv_iconst (v := 0) hx hb dX11_flour_66 (by decide) ?_
                    refine lv_istore (lv' := [(9, .int (0 : Int32)), (7, .long (1 : Int64)), (5, .long (0 : Int64)), (0, .ref (E.2.1 0)), (1, .int a1), (2, .int a2), (3, .int a3), (4, .int a4)]) hx hb dX11_flour_67 hl (by decide) rfl (fun ls hl => ?_)
                    refine mt_lpI3 hf (fun (x20 : Int64) (x21 : Int64) (x22 : Int32) => ∀ (H : Heap) (locs : List Loc) (ls : Array Slot), mt_H E M u H → va_S (mt_A E) s.heap H locs → lv_has ls 10 [(1, .int a1), (2, .int a2), (3, .int a3), (4, .int a4), (5, .long x20), (7, .long x21), (9, .int x22)] → W p l e (headSpec wsX11_flour ({ frames := 2, cells := 0, slots := 0, locals := 58 } : Room)).room s mid (([.ref (E.2.1 0), .int a1, .int a2, .int a3, .int a4] : List Value).toArray) below meth c0 H locs 0 0 (MQ below (mt_Ql E r M' u) (([.ref (E.2.1 0), .int a1, .int a2, .int a3, .int a4] : List Value).toArray) s 0 0 (mt_A E)) (F0 mid 69 ls [])) ?_ _ _ _ hH hS (lv_sub hl [4, 5, 6, 7, 2, 1, 0] rfl)
                    intro k23 ih24 x20 x21 x22 hf H locs ls hH hS hl
                    refine lv_iload hx hb dX11_flour_69 (lv_at hl 6 rfl) ?_
                    refine lv_iload_n hx hb dX11_flour_71 rfl (lv_at hl 0 rfl) ?_
                    refine mt_jn0 hf (∀ (H : Heap) (locs : List Loc) (ls : Array Slot), mt_H E M u H → va_S (mt_A E) s.heap H locs → lv_has ls 10 [(2, .int a2), (4, .int a4), (5, .long x20)] → W p l e (headSpec wsX11_flour ({ frames := 2, cells := 0, slots := 0, locals := 58 } : Room)).room s mid (([.ref (E.2.1 0), .int a1, .int a2, .int a3, .int a4] : List Value).toArray) below meth c0 H locs 0 0 (MQ below (mt_Ql E r M' u) (([.ref (E.2.1 0), .int a1, .int a2, .int a3, .int a4] : List Value).toArray) s 0 0 (mt_A E)) (F0 mid 129 ls [])) ?_ ?_
                    · intro hf H locs ls hH hS hl
                      refine lv_lload hx hb dX11_flour_129 (lv_at hl 2 rfl) ?_
                      refine lv_bipush (v := 10) hx hb dX11_flour_131 (by decide) ?_
                      refine lv_iload_n hx hb dX11_flour_133 rfl (lv_at hl 0 rfl) ?_
                      refine mt_b1I hf (fun r28 hg27 hf => ?_)
                      refine mt_gol (mt_runS (As := [.int (10 : Int32), .int a2]) (rest := [.long x20]) ⟨hx, hb, hml, hown, hts⟩ hI hH (c_X11_power l E (10 : Int32) a2 M u _ hg27) (va_cwS 2 hts gX11_flour_X11_power rfl rfl rfl (by decide +kernel) ⟨Nat.le_of_ble_eq_true rfl, Nat.le_of_ble_eq_true rfl⟩) rfl hl.1 rfl (Nat.le_of_ble_eq_true rfl) dX11_flour_134 ⟨Nat.zero_le _, Nat.zero_le _⟩) hS (fun H locs hH hS => ?_)
                      refine lv_iload hx hb dX11_flour_137 (lv_at hl 1 rfl) ?_
                      refine mt_b1I hf (fun r30 hg29 hf => ?_)
                      refine mt_gol (mt_runS (As := [.long x20, .long r28, .int a4]) (rest := []) ⟨hx, hb, hml, hown, hts⟩ hI hH (c_X11_partOf l E x20 r28 a4 M u _ hg29) (va_cwS 3 hts gX11_flour_X11_partOf rfl rfl rfl (by decide +kernel) ⟨Nat.le_of_ble_eq_true rfl, Nat.le_of_ble_eq_true rfl⟩) rfl hl.1 rfl (Nat.le_of_ble_eq_true rfl) dX11_flour_139 ⟨Nat.zero_le _, Nat.zero_le _⟩) hS (fun H locs hH hS => ?_)
                      obtain ⟨i1, i2⟩ := mt_so2 hf
                      subst i1
                      subst i2
                      exact mt_lret hx hb hr hI hH hS hlocks dX11_flour_142
                    · intro j25 hj26 hf
                      refine lv_icmp_ge (tgt := 129) hx hb dX11_flour_72 (by decide) (fun c31 => ?_) (fun c31 => ?_)
                      · have hf := mt_ifT c31 hf
                        exact hj26 hf _ _ _ hH hS (lv_sub hl [1, 3, 4] rfl)
                      · have hf := mt_ifF c31 hf
                        refine lv_iload hx hb dX11_flour_75 (lv_at hl 6 rfl) ?_
                        refine lv_iload_n hx hb dX11_flour_77 rfl (lv_at hl 1 rfl) ?_
                        refine lv_icmp_gt (tgt := 129) hx hb dX11_flour_78 (by decide) (fun c32 => ?_) (fun c32 => ?_)
                        · have hf := mt_ifT c32 hf
                          exact hj26 hf _ _ _ hH hS (lv_sub hl [1, 3, 4] rfl)
                        · have hf := mt_ifF c32 hf
                          refine lv_lload hx hb dX11_flour_81 (lv_at hl 4 rfl) ?_
                          refine lv_lload hx hb dX11_flour_83 (lv_at hl 5 rfl) ?_
                          refine lv_iload_n hx hb dX11_flour_85 rfl (lv_at hl 2 rfl) ?_
                          refine lv_iload hx hb dX11_flour_86 (lv_at hl 6 rfl) ?_
                          refine mt_b1I hf (fun r34 hg33 hf => ?_)
                          refine mt_gol (mt_runS (As := [.int a3, .int x22]) (rest := [.long x21, .long x20]) ⟨hx, hb, hml, hown, hts⟩ hI hH (c_X11_power l E a3 x22 M u _ hg33) (va_cwS 2 hts gX11_flour_X11_power rfl rfl rfl (by decide +kernel) ⟨Nat.le_of_ble_eq_true rfl, Nat.le_of_ble_eq_true rfl⟩) rfl hl.1 rfl (Nat.le_of_ble_eq_true rfl) dX11_flour_88 ⟨Nat.zero_le _, Nat.zero_le _⟩) hS (fun H locs hH hS => ?_)
                          refine lv_lmul hx hb dX11_flour_91 ?_
                          refine lv_bipush (v := 10) hx hb dX11_flour_92 (by decide) ?_
                          refine lv_iload_n hx hb dX11_flour_94 rfl (lv_at hl 2 rfl) ?_
                          refine lv_isub hx hb dX11_flour_95 ?_
                          refine lv_iload_n hx hb dX11_flour_96 rfl (lv_at hl 1 rfl) ?_
                          refine lv_iload hx hb dX11_flour_97 (lv_at hl 6 rfl) ?_
                          refine lv_isub hx hb dX11_flour_99 ?_
                          refine mt_b1I hf (fun r36 hg35 hf => ?_)
                          refine mt_gol (mt_runS (As := [.int ((10 : Int32) - a3), .int (a2 - x22)]) (rest := [.long (x21 * r34), .long x20]) ⟨hx, hb, hml, hown, hts⟩ hI hH (c_X11_power l E ((10 : Int32) - a3) (a2 - x22) M u _ hg35) (va_cwS 2 hts gX11_flour_X11_power rfl rfl rfl (by decide +kernel) ⟨Nat.le_of_ble_eq_true rfl, Nat.le_of_ble_eq_true rfl⟩) rfl hl.1 rfl (Nat.le_of_ble_eq_true rfl) dX11_flour_100 ⟨Nat.zero_le _, Nat.zero_le _⟩) hS (fun H locs hH hS => ?_)
                          refine lv_lmul hx hb dX11_flour_103 ?_
                          refine lv_ladd hx hb dX11_flour_104 ?_
                          refine mt_ltl hf (fun x37 ex37 hf => ?_)
                          refine lv_lstore (lv' := [(5, .long x37), (1, .int a1), (2, .int a2), (3, .int a3), (4, .int a4), (7, .long x21), (9, .int x22)]) hx hb dX11_flour_105 hl (by decide) rfl (fun ls hl => ?_)
                          refine lv_lload hx hb dX11_flour_107 (lv_at hl 5 rfl) ?_
                          refine lv_iload_n hx hb dX11_flour_109 rfl (lv_at hl 2 rfl) ?_
                          refine lv_iload hx hb dX11_flour_110 (lv_at hl 6 rfl) ?_
                          refine lv_isub hx hb dX11_flour_112 ?_
                          refine lv_i2l (v := (((a2 - x22)).toInt64)) hx hb dX11_flour_113 rfl ?_
                          refine lv_lmul hx hb dX11_flour_114 ?_
                          refine lv_iload hx hb dX11_flour_115 (lv_at hl 6 rfl) ?_
                          refine lv_iconst (v := 1) hx hb dX11_flour_117 (by decide) ?_
                          refine lv_iadd hx hb dX11_flour_118 ?_
                          refine lv_i2l (v := (((x22 + (1 : Int32))).toInt64)) hx hb dX11_flour_119 rfl ?_
                          refine mt_ckI hf (fun q38 hf => ?_)
                          refine lv_ldiv hx hb dX11_flour_120 q38 ?_
                          refine mt_ltl hf (fun x39 ex39 hf => ?_)
                          refine lv_lstore (lv' := [(7, .long x39), (5, .long x37), (1, .int a1), (2, .int a2), (3, .int a3), (4, .int a4), (9, .int x22)]) hx hb dX11_flour_121 hl (by decide) rfl (fun ls hl => ?_)
                          refine mt_ltI hf (fun x40 ex40 hf => ?_)
                          refine lv_iinc (v := x40) (lv' := [(9, .int x40), (7, .long x39), (5, .long x37), (1, .int a1), (2, .int a2), (3, .int a3), (4, .int a4)]) hx hb dX11_flour_123 hl (k := 6) rfl (by rw [ex40]; rfl) (by decide) rfl (fun ls hl => ?_)
                          refine lv_goto (tgt := 69) hx hb dX11_flour_126 (by decide) ?_
                          exact ih24 x37 x39 x40 hf _ _ _ hH hS (lv_sub hl [3, 4, 5, 6, 2, 1, 0] rfl)
                  · have hf := mt_ifT c19 hf
                    refine lv_aload_n hx hb dX11_flour_53 rfl (lv_at hl 0 rfl) ?_
                    refine lv_bipush (v := (-2)) hx hb dX11_flour_54 (by decide) ?_
                    refine mt_b2I hf (fun r42 M43 hg41 hf => ?_)
                    refine mt_gol (mt_runV (i := 0) (As := [.int (-2 : Int32)]) (rest := []) ⟨hx, hb, hml, hown, hts⟩ hI hH (c_X11_refuseLong l E (-2 : Int32) M u _ _ hg41) (cwV 1 hts gX11_flour_X11_refuseLong rfl rfl rfl (by decide +kernel) ⟨Nat.le_of_ble_eq_true rfl, Nat.le_of_ble_eq_true rfl⟩) mt_T0 rfl rfl hl.1 rfl (Nat.le_of_ble_eq_true rfl) dX11_flour_56 ⟨Nat.zero_le _, Nat.zero_le _⟩) hS (fun H locs hH hS => ?_)
                    obtain ⟨i1, i2⟩ := mt_so2 hf
                    subst i1
                    subst i2
                    exact mt_lret hx hb hr hI hH hS hlocks dX11_flour_59
                · have hf := mt_ifF c16 hf
                  exact hj10 hf _ _ _ hH hS (lv_sub hl [0] rfl)
        · have hf := mt_ifF c8 hf
          exact hj2 hf _ _ _ hH hS (lv_sub hl [0] rfl)
set_option maxHeartbeats 4000000 in
set_option maxRecDepth 100000 in
theorem c_X11_sure (l : Launch) (E : mt_E) (a1 : Int32) (a2 : Int32) (a3 : Int32) (M : mt_M) (u : mt_U) (r : Int64) (M' : mt_M) (hf : f_X11_sure a1 a2 a3 M = some (r, M')) : Met l yX11_sure wsX11_sure ({ frames := 2, cells := 0, slots := 0, locals := 58 } : Room) (mt_P E [.ref (E.2.1 0), .int a1, .int a2, .int a3] M u) (mt_Ql E r M' u) 0 0 (mt_A E) := by
  refine Met.ofW (cc := cX11_sure) (maxL := 9) (ret := (some .long)) (by decide) rfl ?_
  intro p e s mid args below meth c0 s₁ B hml hv
  obtain ⟨rfl, hI, hH⟩ := hv
  have hx := B.exec
  have hb := B.bytes
  have hr := B.returns
  have hts := atoms_spec (ws := wsX11_sure) B.pre
  have hown : s.vm.findClass RX11 = some mid.cls := findClass_of_methodNamed B.named
  have hlocks := B.notSynchronized
  have hS : va_S (mt_A E) s.heap s.heap [] := va_S.rf
  have hl := lv_entry ([.ref (E.2.1 0), .int a1, .int a2, .int a3]) (n := 9) (Nat.le_of_ble_eq_true rfl)
  rw [lg_entry_eq]
  generalize (lg_sl ([.ref (E.2.1 0), .int a1, .int a2, .int a3]) ++ List.replicate (9 - (lg_sl ([.ref (E.2.1 0), .int a1, .int a2, .int a3])).length) Slot.unset).toArray = ls at hl ⊢
  have hl : lv_has ls 9 [(0, .ref (E.2.1 0)), (1, .int a1), (2, .int a2), (3, .int a3)] := hl
  unfold f_X11_sure at hf
  have kw0 := hts (.constantLong RX11 323 (9)) (List.mem_of_getElem? (i := 1) rfl)
  refine lv_iload_n hx hb dX11_sure_0 rfl (lv_at hl 1 rfl) ?_
  refine lv_iconst (v := 2) hx hb dX11_sure_1 (by decide) ?_
  refine lv_bipush (v := 99) hx hb dX11_sure_2 (by decide) ?_
  refine mt_b1I hf (fun r2 hg1 hf => ?_)
  refine mt_goi (mt_runS (As := [.int a1, .int (2 : Int32), .int (99 : Int32)]) (rest := []) ⟨hx, hb, hml, hown, hts⟩ hI hH (c_X11_outside l E a1 (2 : Int32) (99 : Int32) M u _ hg1) (va_cwS 3 hts gX11_sure_X11_outside rfl rfl rfl (by decide +kernel) ⟨Nat.le_of_ble_eq_true rfl, Nat.le_of_ble_eq_true rfl⟩) rfl hl.1 rfl (Nat.le_of_ble_eq_true rfl) dX11_sure_4 ⟨Nat.zero_le _, Nat.zero_le _⟩) hS (fun H locs hH hS => ?_)
  refine lv_iload_n hx hb dX11_sure_7 rfl (lv_at hl 2 rfl) ?_
  refine lv_iconst (v := 1) hx hb dX11_sure_8 (by decide) ?_
  refine mt_b1I hf (fun r4 hg3 hf => ?_)
  refine mt_goi (mt_runS (As := [.int a2, .int (1 : Int32)]) (rest := [.int r2]) ⟨hx, hb, hml, hown, hts⟩ hI hH (c_X11_isOneOf l E a2 (1 : Int32) M u _ hg3) (va_cwS 2 hts gX11_sure_X11_isOneOf rfl rfl rfl (by decide +kernel) ⟨Nat.le_of_ble_eq_true rfl, Nat.le_of_ble_eq_true rfl⟩) rfl hl.1 rfl (Nat.le_of_ble_eq_true rfl) dX11_sure_9 ⟨Nat.zero_le _, Nat.zero_le _⟩) hS (fun H locs hH hS => ?_)
  refine mt_jn1 hf (fun (v5 : Int32) => ∀ (H : Heap) (locs : List Loc) (ls : Array Slot), mt_H E M u H → va_S (mt_A E) s.heap H locs → lv_has ls 9 [(0, .ref (E.2.1 0)), (1, .int a1), (2, .int a2), (3, .int a3)] → W p l e (headSpec wsX11_sure ({ frames := 2, cells := 0, slots := 0, locals := 58 } : Room)).room s mid (([.ref (E.2.1 0), .int a1, .int a2, .int a3] : List Value).toArray) below meth c0 H locs 0 0 (MQ below (mt_Ql E r M' u) (([.ref (E.2.1 0), .int a1, .int a2, .int a3] : List Value).toArray) s 0 0 (mt_A E)) (F0 mid 28 ls [.int v5, .int r2])) ?_ ?_
  · intro v5 hf H locs ls hH hS hl
    refine lv_bipush (v := (-2)) hx hb dX11_sure_28 (by decide) ?_
    refine mt_b1I hf (fun r9 hg8 hf => ?_)
    refine mt_goi (mt_runS (As := [.int r2, .int v5, .int (-2 : Int32)]) (rest := []) ⟨hx, hb, hml, hown, hts⟩ hI hH (c_X11_firstOf l E r2 v5 (-2 : Int32) M u _ hg8) (va_cwS 3 hts gX11_sure_X11_firstOf rfl rfl rfl (by decide +kernel) ⟨Nat.le_of_ble_eq_true rfl, Nat.le_of_ble_eq_true rfl⟩) rfl hl.1 rfl (Nat.le_of_ble_eq_true rfl) dX11_sure_30 ⟨Nat.zero_le _, Nat.zero_le _⟩) hS (fun H locs hH hS => ?_)
    refine lv_istore (lv' := [(4, .int r9), (0, .ref (E.2.1 0)), (1, .int a1), (2, .int a2), (3, .int a3)]) hx hb dX11_sure_33 hl (by decide) rfl (fun ls hl => ?_)
    refine lv_iload hx hb dX11_sure_35 (lv_at hl 0 rfl) ?_
    refine lv_if_eq (tgt := 47) hx hb dX11_sure_37 (by decide) (fun c10 => ?_) (fun c10 => ?_)
    · have hf := mt_ifT c10 hf
      refine lv_iload_n hx hb dX11_sure_47 rfl (lv_at hl 2 rfl) ?_
      refine lv_i2l (v := ((a1).toInt64)) hx hb dX11_sure_48 rfl ?_
      refine lv_lconst (v := 1) hx hb dX11_sure_49 (by decide) ?_
      refine lv_lsub hx hb dX11_sure_50 ?_
      refine lv_iload_n hx hb dX11_sure_51 rfl (lv_at hl 3 rfl) ?_
      refine lv_iconst (v := 1) hx hb dX11_sure_52 (by decide) ?_
      refine mt_jn1 hf (fun (v11 : Int32) => ∀ (H : Heap) (locs : List Loc) (ls : Array Slot), mt_H E M u H → va_S (mt_A E) s.heap H locs → lv_has ls 9 [(2, .int a2), (3, .int a3)] → W p l e (headSpec wsX11_sure ({ frames := 2, cells := 0, slots := 0, locals := 58 } : Room)).room s mid (([.ref (E.2.1 0), .int a1, .int a2, .int a3] : List Value).toArray) below meth c0 H locs 0 0 (MQ below (mt_Ql E r M' u) (([.ref (E.2.1 0), .int a1, .int a2, .int a3] : List Value).toArray) s 0 0 (mt_A E)) (F0 mid 62 ls [.int v11, .long (((a1).toInt64) - (1 : Int64))])) ?_ ?_
      · intro v11 hf H locs ls hH hS hl
        refine lv_i2l (v := ((v11).toInt64)) hx hb dX11_sure_62 rfl ?_
        refine lv_lmul hx hb dX11_sure_63 ?_
        refine mt_ltl hf (fun x14 ex14 hf => ?_)
        refine lv_lstore (lv' := [(5, .long x14), (2, .int a2), (3, .int a3)]) hx hb dX11_sure_64 hl (by decide) rfl (fun ls hl => ?_)
        refine lv_iload_n hx hb dX11_sure_66 rfl (lv_at hl 1 rfl) ?_
        refine lv_iconst (v := 1) hx hb dX11_sure_67 (by decide) ?_
        refine mt_jn1 hf (fun (v15 : Int64) => ∀ (H : Heap) (locs : List Loc) (ls : Array Slot), mt_H E M u H → va_S (mt_A E) s.heap H locs → lv_has ls 9 [(3, .int a3), (5, .long x14)] → W p l e (headSpec wsX11_sure ({ frames := 2, cells := 0, slots := 0, locals := 58 } : Room)).room s mid (([.ref (E.2.1 0), .int a1, .int a2, .int a3] : List Value).toArray) below meth c0 H locs 0 0 (MQ below (mt_Ql E r M' u) (([.ref (E.2.1 0), .int a1, .int a2, .int a3] : List Value).toArray) s 0 0 (mt_A E)) (F0 mid 78 ls [.long v15])) ?_ ?_
        · intro v15 hf H locs ls hH hS hl
          refine lv_lstore (lv' := [(7, .long v15), (3, .int a3), (5, .long x14)]) hx hb dX11_sure_78 hl (by decide) rfl (fun ls hl => ?_)
          refine lv_lload hx hb dX11_sure_80 (lv_at hl 2 rfl) ?_
          refine lv_lload hx hb dX11_sure_82 (lv_at hl 2 rfl) ?_
          refine lv_lload hx hb dX11_sure_84 (lv_at hl 0 rfl) ?_
          refine lv_ladd hx hb dX11_sure_86 ?_
          refine lv_iload_n hx hb dX11_sure_87 rfl (lv_at hl 1 rfl) ?_
          refine mt_b1I hf (fun r19 hg18 hf => ?_)
          refine mt_gol (mt_runS (As := [.long x14, .long (x14 + v15), .int a3]) (rest := []) ⟨hx, hb, hml, hown, hts⟩ hI hH (c_X11_partOf l E x14 (x14 + v15) a3 M u _ hg18) (va_cwS 3 hts gX11_sure_X11_partOf rfl rfl rfl (by decide +kernel) ⟨Nat.le_of_ble_eq_true rfl, Nat.le_of_ble_eq_true rfl⟩) rfl hl.1 rfl (Nat.le_of_ble_eq_true rfl) dX11_sure_88 ⟨Nat.zero_le _, Nat.zero_le _⟩) hS (fun H locs hH hS => ?_)
          obtain ⟨i1, i2⟩ := mt_so2 hf
          subst i1
          subst i2
          exact mt_lret hx hb hr hI hH hS hlocks dX11_sure_91
        · intro j16 hj17 hf
          refine lv_icmp_ne (tgt := 75) hx hb dX11_sure_68 (by decide) (fun c20 => ?_) (fun c20 => ?_)
          · have hf := mt_ifF c20 hf
            refine lv_ldc2 hx hb hown kw0 dX11_sure_75 ?_
            exact hj17 (9 : Int64) hf _ _ _ hH hS (lv_sub hl [2, 0] rfl)
          · have hf := mt_ifT c20 hf
            refine lv_lconst (v := 1) hx hb dX11_sure_71 (by decide) ?_
            refine lv_goto (tgt := 78) hx hb dX11_sure_72 (by decide) ?_
            exact hj17 (1 : Int64) hf _ _ _ hH hS (lv_sub hl [2, 0] rfl)
      · intro j12 hj13 hf
        refine lv_icmp_ne (tgt := 61) hx hb dX11_sure_53 (by decide) (fun c21 => ?_) (fun c21 => ?_)
        · have hf := mt_ifF c21 hf
          refine lv_iconst (v := 1) hx hb dX11_sure_61 (by decide) ?_
          exact hj13 (1 : Int32) hf _ _ _ hH hS (lv_sub hl [3, 4] rfl)
        · have hf := mt_ifT c21 hf
          refine lv_bipush (v := 9) hx hb dX11_sure_56 (by decide) ?_
          refine lv_goto (tgt := 62) hx hb dX11_sure_58 (by decide) ?_
          exact hj13 (9 : Int32) hf _ _ _ hH hS (lv_sub hl [3, 4] rfl)
    · have hf := mt_ifF c10 hf
      refine lv_aload_n hx hb dX11_sure_40 rfl (lv_at hl 1 rfl) ?_
      refine lv_iload hx hb dX11_sure_41 (lv_at hl 0 rfl) ?_
      refine mt_b2I hf (fun r23 M24 hg22 hf => ?_)
      refine mt_gol (mt_runV (i := 0) (As := [.int r9]) (rest := []) ⟨hx, hb, hml, hown, hts⟩ hI hH (c_X11_refuseLong l E r9 M u _ _ hg22) (cwV 1 hts gX11_sure_X11_refuseLong rfl rfl rfl (by decide +kernel) ⟨Nat.le_of_ble_eq_true rfl, Nat.le_of_ble_eq_true rfl⟩) mt_T0 rfl rfl hl.1 rfl (Nat.le_of_ble_eq_true rfl) dX11_sure_43 ⟨Nat.zero_le _, Nat.zero_le _⟩) hS (fun H locs hH hS => ?_)
      obtain ⟨i1, i2⟩ := mt_so2 hf
      subst i1
      subst i2
      exact mt_lret hx hb hr hI hH hS hlocks dX11_sure_46
  · intro j6 hj7 hf
    refine mt_jn0 hf (∀ (H : Heap) (locs : List Loc) (ls : Array Slot), mt_H E M u H → va_S (mt_A E) s.heap H locs → lv_has ls 9 [(0, .ref (E.2.1 0)), (1, .int a1), (2, .int a2), (3, .int a3)] → W p l e (headSpec wsX11_sure ({ frames := 2, cells := 0, slots := 0, locals := 58 } : Room)).room s mid (([.ref (E.2.1 0), .int a1, .int a2, .int a3] : List Value).toArray) below meth c0 H locs 0 0 (MQ below (mt_Ql E r M' u) (([.ref (E.2.1 0), .int a1, .int a2, .int a3] : List Value).toArray) s 0 0 (mt_A E)) (F0 mid 27 ls [.int r2])) ?_ ?_
    · intro hf H locs ls hH hS hl
      refine lv_iconst (v := 0) hx hb dX11_sure_27 (by decide) ?_
      exact hj7 (0 : Int32) hf _ _ _ hH hS (lv_sub hl [0, 1, 2, 3] rfl)
    · intro j25 hj26 hf
      refine lv_if_eq (tgt := 27) hx hb dX11_sure_12 (by decide) (fun c27 => ?_) (fun c27 => ?_)
      · have hf := mt_ifT c27 hf
        exact hj26 hf _ _ _ hH hS (lv_sub hl [0, 1, 2, 3] rfl)
      · have hf := mt_ifF c27 hf
        refine lv_iload_n hx hb dX11_sure_15 rfl (lv_at hl 3 rfl) ?_
        refine lv_iconst (v := 1) hx hb dX11_sure_16 (by decide) ?_
        refine mt_b1I hf (fun r29 hg28 hf => ?_)
        refine mt_goi (mt_runS (As := [.int a3, .int (1 : Int32)]) (rest := [.int r2]) ⟨hx, hb, hml, hown, hts⟩ hI hH (c_X11_isOneOf l E a3 (1 : Int32) M u _ hg28) (va_cwS 2 hts gX11_sure_X11_isOneOf rfl rfl rfl (by decide +kernel) ⟨Nat.le_of_ble_eq_true rfl, Nat.le_of_ble_eq_true rfl⟩) rfl hl.1 rfl (Nat.le_of_ble_eq_true rfl) dX11_sure_17 ⟨Nat.zero_le _, Nat.zero_le _⟩) hS (fun H locs hH hS => ?_)
        refine lv_if_eq (tgt := 27) hx hb dX11_sure_20 (by decide) (fun c30 => ?_) (fun c30 => ?_)
        · have hf := mt_ifT c30 hf
          exact hj26 hf _ _ _ hH hS (lv_sub hl [0, 1, 2, 3] rfl)
        · have hf := mt_ifF c30 hf
          refine lv_iconst (v := 1) hx hb dX11_sure_23 (by decide) ?_
          refine lv_goto (tgt := 28) hx hb dX11_sure_24 (by decide) ?_
          exact hj7 (1 : Int32) hf _ _ _ hH hS (lv_sub hl [0, 1, 2, 3] rfl)
set_option maxHeartbeats 4000000 in
set_option maxRecDepth 100000 in
theorem c_X11_bars (l : Launch) (E : mt_E) (a1 : Int32) (a2 : Int32) (a3 : Int32) (M : mt_M) (u : mt_U) (r : Int32) (M' : mt_M) (hf : f_X11_bars a1 a2 a3 M = some (r, M')) : Met l yX11_bars wsX11_bars ({ frames := 1, cells := 0, slots := 0, locals := 22 } : Room) (mt_P E [.ref (E.2.1 0), .int a1, .int a2, .int a3] M u) (mt_Qi E r M' u) 0 0 (mt_A E) := by
  refine Met.ofW (cc := cX11_bars) (maxL := 4) (ret := (some .int)) (by decide) rfl ?_
  intro p e s mid args below meth c0 s₁ B hml hv
  obtain ⟨rfl, hI, hH⟩ := hv
  have hx := B.exec
  have hb := B.bytes
  have hr := B.returns
  have hts := atoms_spec (ws := wsX11_bars) B.pre
  have hown : s.vm.findClass RX11 = some mid.cls := findClass_of_methodNamed B.named
  have hlocks := B.notSynchronized
  have hS : va_S (mt_A E) s.heap s.heap [] := va_S.rf
  have hl := lv_entry ([.ref (E.2.1 0), .int a1, .int a2, .int a3]) (n := 4) (Nat.le_of_ble_eq_true rfl)
  rw [lg_entry_eq]
  generalize (lg_sl ([.ref (E.2.1 0), .int a1, .int a2, .int a3]) ++ List.replicate (4 - (lg_sl ([.ref (E.2.1 0), .int a1, .int a2, .int a3])).length) Slot.unset).toArray = ls at hl ⊢
  have hl : lv_has ls 4 [(0, .ref (E.2.1 0)), (1, .int a1), (2, .int a2), (3, .int a3)] := hl
  unfold f_X11_bars at hf
  refine lv_iload_n hx hb dX11_bars_0 rfl (lv_at hl 1 rfl) ?_
  refine lv_iconst (v := 2) hx hb dX11_bars_1 (by decide) ?_
  refine mt_jn0 hf (∀ (H : Heap) (locs : List Loc) (ls : Array Slot), mt_H E M u H → va_S (mt_A E) s.heap H locs → lv_has ls 4 [(0, .ref (E.2.1 0))] → W p l e (headSpec wsX11_bars ({ frames := 1, cells := 0, slots := 0, locals := 22 } : Room)).room s mid (([.ref (E.2.1 0), .int a1, .int a2, .int a3] : List Value).toArray) below meth c0 H locs 0 0 (MQ below (mt_Qi E r M' u) (([.ref (E.2.1 0), .int a1, .int a2, .int a3] : List Value).toArray) s 0 0 (mt_A E)) (F0 mid 14 ls [])) ?_ ?_
  · intro hf H locs ls hH hS hl
    refine lv_aload_n hx hb dX11_bars_14 rfl (lv_at hl 0 rfl) ?_
    refine lv_bipush (v := (-4)) hx hb dX11_bars_15 (by decide) ?_
    refine mt_b2I hf (fun r4 M5 hg3 hf => ?_)
    refine mt_goi (mt_runV (i := 0) (As := [.int (-4 : Int32)]) (rest := []) ⟨hx, hb, hml, hown, hts⟩ hI hH (c_X11_refuse l E (-4 : Int32) M u _ _ hg3) (cwV 1 hts gX11_bars_X11_refuse rfl rfl rfl (by decide +kernel) ⟨Nat.le_of_ble_eq_true rfl, Nat.le_of_ble_eq_true rfl⟩) mt_T0 rfl rfl hl.1 rfl (Nat.le_of_ble_eq_true rfl) dX11_bars_17 ⟨Nat.zero_le _, Nat.zero_le _⟩) hS (fun H locs hH hS => ?_)
    obtain ⟨i1, i2⟩ := mt_so2 hf
    subst i1
    subst i2
    exact mt_iret hx hb hr hI hH hS hlocks dX11_bars_20
  · intro j1 hj2 hf
    refine lv_icmp_lt (tgt := 14) hx hb dX11_bars_2 (by decide) (fun c6 => ?_) (fun c6 => ?_)
    · have hf := mt_ifT c6 hf
      exact hj2 hf _ _ _ hH hS (lv_sub hl [0] rfl)
    · have hf := mt_ifF c6 hf
      refine lv_iload_n hx hb dX11_bars_5 rfl (lv_at hl 2 rfl) ?_
      refine lv_iconst (v := 1) hx hb dX11_bars_6 (by decide) ?_
      refine lv_icmp_lt (tgt := 14) hx hb dX11_bars_7 (by decide) (fun c7 => ?_) (fun c7 => ?_)
      · have hf := mt_ifT c7 hf
        exact hj2 hf _ _ _ hH hS (lv_sub hl [0] rfl)
      · have hf := mt_ifF c7 hf
        refine lv_iload_n hx hb dX11_bars_10 rfl (lv_at hl 3 rfl) ?_
        refine lv_if_ge (tgt := 21) hx hb dX11_bars_11 (by decide) (fun c8 => ?_) (fun c8 => ?_)
        · have hf := mt_ifT c8 hf
          refine lv_iload_n hx hb dX11_bars_21 rfl (lv_at hl 1 rfl) ?_
          refine lv_bipush (v := 20) hx hb dX11_bars_22 (by decide) ?_
          refine mt_jn0 hf (∀ (H : Heap) (locs : List Loc) (ls : Array Slot), mt_H E M u H → va_S (mt_A E) s.heap H locs → lv_has ls 4 [(0, .ref (E.2.1 0))] → W p l e (headSpec wsX11_bars ({ frames := 1, cells := 0, slots := 0, locals := 22 } : Room)).room s mid (([.ref (E.2.1 0), .int a1, .int a2, .int a3] : List Value).toArray) below meth c0 H locs 0 0 (MQ below (mt_Qi E r M' u) (([.ref (E.2.1 0), .int a1, .int a2, .int a3] : List Value).toArray) s 0 0 (mt_A E)) (F0 mid 39 ls [])) ?_ ?_
          · intro hf H locs ls hH hS hl
            refine lv_aload_n hx hb dX11_bars_39 rfl (lv_at hl 0 rfl) ?_
            refine lv_bipush (v := (-6)) hx hb dX11_bars_40 (by decide) ?_
            refine mt_b2I hf (fun r12 M13 hg11 hf => ?_)
            refine mt_goi (mt_runV (i := 0) (As := [.int (-6 : Int32)]) (rest := []) ⟨hx, hb, hml, hown, hts⟩ hI hH (c_X11_refuse l E (-6 : Int32) M u _ _ hg11) (cwV 1 hts gX11_bars_X11_refuse rfl rfl rfl (by decide +kernel) ⟨Nat.le_of_ble_eq_true rfl, Nat.le_of_ble_eq_true rfl⟩) mt_T0 rfl rfl hl.1 rfl (Nat.le_of_ble_eq_true rfl) dX11_bars_42 ⟨Nat.zero_le _, Nat.zero_le _⟩) hS (fun H locs hH hS => ?_)
            obtain ⟨i1, i2⟩ := mt_so2 hf
            subst i1
            subst i2
            exact mt_iret hx hb hr hI hH hS hlocks dX11_bars_45
          · intro j9 hj10 hf
            refine lv_icmp_gt (tgt := 39) hx hb dX11_bars_24 (by decide) (fun c14 => ?_) (fun c14 => ?_)
            · have hf := mt_ifT c14 hf
              exact hj10 hf _ _ _ hH hS (lv_sub hl [0] rfl)
            · have hf := mt_ifF c14 hf
              refine lv_iload_n hx hb dX11_bars_27 rfl (lv_at hl 2 rfl) ?_
              refine lv_bipush (v := 9) hx hb dX11_bars_28 (by decide) ?_
              refine lv_icmp_gt (tgt := 39) hx hb dX11_bars_30 (by decide) (fun c15 => ?_) (fun c15 => ?_)
              · have hf := mt_ifT c15 hf
                exact hj10 hf _ _ _ hH hS (lv_sub hl [0] rfl)
              · have hf := mt_ifF c15 hf
                refine lv_iload_n hx hb dX11_bars_33 rfl (lv_at hl 3 rfl) ?_
                refine lv_bipush (v := 99) hx hb dX11_bars_34 (by decide) ?_
                refine lv_icmp_le (tgt := 46) hx hb dX11_bars_36 (by decide) (fun c16 => ?_) (fun c16 => ?_)
                · have hf := mt_ifT c16 hf
                  refine lv_iload_n hx hb dX11_bars_46 rfl (lv_at hl 3 rfl) ?_
                  refine lv_iload_n hx hb dX11_bars_47 rfl (lv_at hl 1 rfl) ?_
                  refine mt_ckI hf (fun q17 hf => ?_)
                  refine lv_idiv hx hb dX11_bars_48 q17 ?_
                  refine lv_iload_n hx hb dX11_bars_49 rfl (lv_at hl 2 rfl) ?_
                  refine lv_icmp_le (tgt := 58) hx hb dX11_bars_50 (by decide) (fun c18 => ?_) (fun c18 => ?_)
                  · have hf := mt_ifT c18 hf
                    refine lv_iconst (v := 0) hx hb dX11_bars_58 (by decide) ?_
                    obtain ⟨i1, i2⟩ := mt_so2 hf
                    subst i1
                    subst i2
                    exact mt_iret hx hb hr hI hH hS hlocks dX11_bars_59
                  · have hf := mt_ifF c18 hf
                    refine lv_bipush (v := 60) hx hb dX11_bars_53 (by decide) ?_
                    refine lv_goto (tgt := 59) hx hb dX11_bars_55 (by decide) ?_
                    obtain ⟨i1, i2⟩ := mt_so2 hf
                    subst i1
                    subst i2
                    exact mt_iret hx hb hr hI hH hS hlocks dX11_bars_59
                · have hf := mt_ifF c16 hf
                  exact hj10 hf _ _ _ hH hS (lv_sub hl [0] rfl)
        · have hf := mt_ifF c8 hf
          exact hj2 hf _ _ _ hH hS (lv_sub hl [0] rfl)
set_option maxHeartbeats 4000000 in
set_option maxRecDepth 100000 in
theorem c_X11_row (l : Launch) (E : mt_E) (a1 : Int32) (M : mt_M) (u : mt_U) (r : Int32) (M' : mt_M) (hf : f_X11_row a1 M = some (r, M')) : Met l yX11_row wsX11_row ({ frames := 1, cells := 0, slots := 0, locals := 22 } : Room) (mt_P E [.ref (E.2.1 0), .int a1] M u) (mt_Qi E r M' u) 0 0 (mt_A E) := by
  refine Met.ofW (cc := cX11_row) (maxL := 3) (ret := (some .int)) (by decide) rfl ?_
  intro p e s mid args below meth c0 s₁ B hml hv
  obtain ⟨rfl, hI, hH⟩ := hv
  have hx := B.exec
  have hb := B.bytes
  have hr := B.returns
  have hts := atoms_spec (ws := wsX11_row) B.pre
  have hown : s.vm.findClass RX11 = some mid.cls := findClass_of_methodNamed B.named
  have hlocks := B.notSynchronized
  have hS : va_S (mt_A E) s.heap s.heap [] := va_S.rf
  have hl := lv_entry ([.ref (E.2.1 0), .int a1]) (n := 3) (Nat.le_of_ble_eq_true rfl)
  rw [lg_entry_eq]
  generalize (lg_sl ([.ref (E.2.1 0), .int a1]) ++ List.replicate (3 - (lg_sl ([.ref (E.2.1 0), .int a1])).length) Slot.unset).toArray = ls at hl ⊢
  have hl : lv_has ls 3 [(0, .ref (E.2.1 0)), (1, .int a1)] := hl
  unfold f_X11_row at hf
  have kw0 := hts (.fieldLink RX11 329 "MilkTwice" "rowLength" "I") (List.mem_of_getElem? (i := 1) rfl)
  have kw1 := hts (.fieldLink RX11 9 "MilkTwice" "row" "[I") (List.mem_of_getElem? (i := 2) rfl)
  have hinX11 : ∀ w ∈ u_ws RX11 TX11 10, w ∈ wsX11_row := fun w h => List.mem_cons_of_mem _ (List.mem_append_right _ h)
  refine lv_iload_n hx hb dX11_row_0 rfl (lv_at hl 1 rfl) ?_
  refine lv_iconst (v := 0) hx hb dX11_row_1 (by decide) ?_
  refine lv_bipush (v := 99) hx hb dX11_row_2 (by decide) ?_
  refine mt_b1I hf (fun r2 hg1 hf => ?_)
  refine mt_goi (mt_runS (As := [.int a1, .int (0 : Int32), .int (99 : Int32)]) (rest := []) ⟨hx, hb, hml, hown, hts⟩ hI hH (c_X11_outside l E a1 (0 : Int32) (99 : Int32) M u _ hg1) (va_cwS 3 hts gX11_row_X11_outside rfl rfl rfl (by decide +kernel) ⟨Nat.le_of_ble_eq_true rfl, Nat.le_of_ble_eq_true rfl⟩) rfl hl.1 rfl (Nat.le_of_ble_eq_true rfl) dX11_row_4 ⟨Nat.zero_le _, Nat.zero_le _⟩) hS (fun H locs hH hS => ?_)
  refine lv_aload_n hx hb dX11_row_7 rfl (lv_at hl 0 rfl) ?_
  refine mt_geti (C := RX11) (T := TX11) (N := 10) hx hb hts hinX11 hown hI hH mt_T0 rfl 8 (by decide) kw0 rfl rfl dX11_row_8 ?_
  refine lv_aload_n hx hb dX11_row_11 rfl (lv_at hl 0 rfl) ?_
  refine mt_getr (C := RX11) (T := TX11) (N := 10) hx hb hts hinX11 hown hI hH mt_T0 rfl 7 (by decide) kw1 rfl rfl dX11_row_12 ?_
  refine mt_alen hx hb hI hH mt_T1 dX11_row_15 ?_
  refine mt_jn1 hf (fun (v3 : Int32) => ∀ (H : Heap) (locs : List Loc) (ls : Array Slot), mt_H E M u H → va_S (mt_A E) s.heap H locs → lv_has ls 3 [(0, .ref (E.2.1 0)), (1, .int a1)] → W p l e (headSpec wsX11_row ({ frames := 1, cells := 0, slots := 0, locals := 22 } : Room)).room s mid (([.ref (E.2.1 0), .int a1] : List Value).toArray) below meth c0 H locs 0 0 (MQ below (mt_Qi E r M' u) (([.ref (E.2.1 0), .int a1] : List Value).toArray) s 0 0 (mt_A E)) (F0 mid 24 ls [.int v3, .int r2])) ?_ ?_
  · intro v3 hf H locs ls hH hS hl
    refine lv_bipush (v := (-6)) hx hb dX11_row_24 (by decide) ?_
    refine mt_b1I hf (fun r7 hg6 hf => ?_)
    refine mt_goi (mt_runS (As := [.int r2, .int v3, .int (-6 : Int32)]) (rest := []) ⟨hx, hb, hml, hown, hts⟩ hI hH (c_X11_firstOf l E r2 v3 (-6 : Int32) M u _ hg6) (va_cwS 3 hts gX11_row_X11_firstOf rfl rfl rfl (by decide +kernel) ⟨Nat.le_of_ble_eq_true rfl, Nat.le_of_ble_eq_true rfl⟩) rfl hl.1 rfl (Nat.le_of_ble_eq_true rfl) dX11_row_26 ⟨Nat.zero_le _, Nat.zero_le _⟩) hS (fun H locs hH hS => ?_)
    refine lv_istore_n (lv' := [(2, .int r7), (0, .ref (E.2.1 0)), (1, .int a1)]) hx hb dX11_row_29 rfl hl (by decide) rfl (fun ls hl => ?_)
    refine lv_iload_n hx hb dX11_row_30 rfl (lv_at hl 0 rfl) ?_
    refine lv_if_eq (tgt := 40) hx hb dX11_row_31 (by decide) (fun c8 => ?_) (fun c8 => ?_)
    · have hf := mt_ifT c8 hf
      refine lv_aload_n hx hb dX11_row_40 rfl (lv_at hl 1 rfl) ?_
      refine mt_getr (C := RX11) (T := TX11) (N := 10) hx hb hts hinX11 hown hI hH mt_T0 rfl 7 (by decide) kw1 rfl rfl dX11_row_41 ?_
      refine lv_aload_n hx hb dX11_row_44 rfl (lv_at hl 1 rfl) ?_
      refine mt_geti (C := RX11) (T := TX11) (N := 10) hx hb hts hinX11 hown hI hH mt_T0 rfl 8 (by decide) kw0 rfl rfl dX11_row_45 ?_
      refine lv_iload_n hx hb dX11_row_48 rfl (lv_at hl 2 rfl) ?_
      refine mt_ciI hf (fun q10 hf => ?_)
      refine mt_iast hx hb hI hH hS mt_T1 q10 dX11_row_49 (fun H locs hH hS => ?_)
      refine mt_ltI hf (fun M9 eM9 hf => ?_)
      rw [← eM9] at hH
      refine lv_aload_n hx hb dX11_row_50 rfl (lv_at hl 1 rfl) ?_
      refine lv_dup hx hb dX11_row_51 rfl ?_
      refine mt_geti (C := RX11) (T := TX11) (N := 10) hx hb hts hinX11 hown hI hH mt_T0 rfl 8 (by decide) kw0 rfl rfl dX11_row_52 ?_
      refine lv_iconst (v := 1) hx hb dX11_row_55 (by decide) ?_
      refine lv_iadd hx hb dX11_row_56 ?_
      refine mt_puti (ty := .int) (C := RX11) (T := TX11) (N := 10) hx hb hts hinX11 tyX11 tyX11_ok nmX11 hown hI hH hS mt_T0 rfl 8 (by decide) kw0 rfl rfl (by decide +kernel) rfl rfl rfl dX11_row_57 (fun H locs hH hS => ?_)
      refine mt_ltI hf (fun M11 eM11 hf => ?_)
      rw [← eM11] at hH
      refine lv_aload_n hx hb dX11_row_60 rfl (lv_at hl 1 rfl) ?_
      refine mt_geti (C := RX11) (T := TX11) (N := 10) hx hb hts hinX11 hown hI hH mt_T0 rfl 8 (by decide) kw0 rfl rfl dX11_row_61 ?_
      obtain ⟨i1, i2⟩ := mt_so2 hf
      subst i1
      subst i2
      exact mt_iret hx hb hr hI hH hS hlocks dX11_row_64
    · have hf := mt_ifF c8 hf
      refine lv_aload_n hx hb dX11_row_34 rfl (lv_at hl 1 rfl) ?_
      refine lv_iload_n hx hb dX11_row_35 rfl (lv_at hl 0 rfl) ?_
      refine mt_b2I hf (fun r13 M14 hg12 hf => ?_)
      refine mt_goi (mt_runV (i := 0) (As := [.int r7]) (rest := []) ⟨hx, hb, hml, hown, hts⟩ hI hH (c_X11_refuse l E r7 M u _ _ hg12) (cwV 1 hts gX11_row_X11_refuse rfl rfl rfl (by decide +kernel) ⟨Nat.le_of_ble_eq_true rfl, Nat.le_of_ble_eq_true rfl⟩) mt_T0 rfl rfl hl.1 rfl (Nat.le_of_ble_eq_true rfl) dX11_row_36 ⟨Nat.zero_le _, Nat.zero_le _⟩) hS (fun H locs hH hS => ?_)
      obtain ⟨i1, i2⟩ := mt_so2 hf
      subst i1
      subst i2
      exact mt_iret hx hb hr hI hH hS hlocks dX11_row_39
  · intro j4 hj5 hf
    refine lv_icmp_ge (tgt := 23) hx hb dX11_row_16 (by decide) (fun c15 => ?_) (fun c15 => ?_)
    · have hf := mt_ifT c15 hf
      refine lv_iconst (v := 0) hx hb dX11_row_23 (by decide) ?_
      exact hj5 (0 : Int32) hf _ _ _ hH hS (lv_sub hl [0, 1] rfl)
    · have hf := mt_ifF c15 hf
      refine lv_iconst (v := 1) hx hb dX11_row_19 (by decide) ?_
      refine lv_goto (tgt := 24) hx hb dX11_row_20 (by decide) ?_
      exact hj5 (1 : Int32) hf _ _ _ hH hS (lv_sub hl [0, 1] rfl)
set_option maxHeartbeats 4000000 in
set_option maxRecDepth 100000 in
theorem c_X11_clear (l : Launch) (E : mt_E)  (M : mt_M) (u : mt_U) (r : Int32) (M' : mt_M) (hf : f_X11_clear M = some (r, M')) : Met l yX11_clear wsX11_clear ({ frames := 0, cells := 0, slots := 0, locals := 0 } : Room) (mt_P E [.ref (E.2.1 0)] M u) (mt_Qi E r M' u) 0 0 (mt_A E) := by
  refine Met.ofW (cc := cX11_clear) (maxL := 2) (ret := (some .int)) (by decide) rfl ?_
  intro p e s mid args below meth c0 s₁ B hml hv
  obtain ⟨rfl, hI, hH⟩ := hv
  have hx := B.exec
  have hb := B.bytes
  have hr := B.returns
  have hts := atoms_spec (ws := wsX11_clear) B.pre
  have hown : s.vm.findClass RX11 = some mid.cls := findClass_of_methodNamed B.named
  have hlocks := B.notSynchronized
  have hS : va_S (mt_A E) s.heap s.heap [] := va_S.rf
  have hl := lv_entry ([.ref (E.2.1 0)]) (n := 2) (Nat.le_of_ble_eq_true rfl)
  rw [lg_entry_eq]
  generalize (lg_sl ([.ref (E.2.1 0)]) ++ List.replicate (2 - (lg_sl ([.ref (E.2.1 0)])).length) Slot.unset).toArray = ls at hl ⊢
  have hl : lv_has ls 2 [(0, .ref (E.2.1 0))] := hl
  unfold f_X11_clear at hf
  have kw0 := hts (.fieldLink RX11 329 "MilkTwice" "rowLength" "I") (List.mem_of_getElem? (i := 1) rfl)
  have hinX11 : ∀ w ∈ u_ws RX11 TX11 10, w ∈ wsX11_clear := fun w h => List.mem_cons_of_mem _ (List.mem_append_right _ h)
  refine lv_aload_n hx hb dX11_clear_0 rfl (lv_at hl 0 rfl) ?_
  refine mt_geti (C := RX11) (T := TX11) (N := 10) hx hb hts hinX11 hown hI hH mt_T0 rfl 8 (by decide) kw0 rfl rfl dX11_clear_1 ?_
  refine mt_lti hf (fun x1 ex1 hf => ?_)
  refine lv_istore_n (lv' := [(1, .int x1), (0, .ref (E.2.1 0))]) hx hb dX11_clear_4 rfl hl (by decide) rfl (fun ls hl => ?_)
  refine lv_aload_n hx hb dX11_clear_5 rfl (lv_at hl 1 rfl) ?_
  refine lv_iconst (v := 0) hx hb dX11_clear_6 (by decide) ?_
  refine mt_puti (ty := .int) (C := RX11) (T := TX11) (N := 10) hx hb hts hinX11 tyX11 tyX11_ok nmX11 hown hI hH hS mt_T0 rfl 8 (by decide) kw0 rfl rfl (by decide +kernel) rfl rfl rfl dX11_clear_7 (fun H locs hH hS => ?_)
  refine mt_ltI hf (fun M2 eM2 hf => ?_)
  rw [← eM2] at hH
  refine lv_iload_n hx hb dX11_clear_10 rfl (lv_at hl 0 rfl) ?_
  obtain ⟨i1, i2⟩ := mt_so2 hf
  subst i1
  subst i2
  exact mt_iret hx hb hr hI hH hS hlocks dX11_clear_11
set_option maxHeartbeats 4000000 in
set_option maxRecDepth 100000 in
theorem c_X11_judge (l : Launch) (E : mt_E) (a1 : Int32) (M : mt_M) (u : mt_U) (r : Int32) (M' : mt_M) (hf : f_X11_judge a1 M = some (r, M')) : Met l yX11_judge wsX11_judge ({ frames := 5, cells := 0, slots := 0, locals := 113 } : Room) (mt_P E [.ref (E.2.1 0), .int a1] M u) (mt_Qi E r M' u) 0 0 (mt_A E) := by
  refine Met.ofW (cc := cX11_judge) (maxL := 4) (ret := (some .int)) (by decide) rfl ?_
  intro p e s mid args below meth c0 s₁ B hml hv
  obtain ⟨rfl, hI, hH⟩ := hv
  have hx := B.exec
  have hb := B.bytes
  have hr := B.returns
  have hts := atoms_spec (ws := wsX11_judge) B.pre
  have hown : s.vm.findClass RX11 = some mid.cls := findClass_of_methodNamed B.named
  have hlocks := B.notSynchronized
  have hS : va_S (mt_A E) s.heap s.heap [] := va_S.rf
  have hl := lv_entry ([.ref (E.2.1 0), .int a1]) (n := 4) (Nat.le_of_ble_eq_true rfl)
  rw [lg_entry_eq]
  generalize (lg_sl ([.ref (E.2.1 0), .int a1]) ++ List.replicate (4 - (lg_sl ([.ref (E.2.1 0), .int a1])).length) Slot.unset).toArray = ls at hl ⊢
  have hl : lv_has ls 4 [(0, .ref (E.2.1 0)), (1, .int a1)] := hl
  unfold f_X11_judge at hf
  have kw0 := hts (.fieldLink RX11 39 "MilkTwice" "house" "LMilkTwice$House;") (List.mem_of_getElem? (i := 1) rfl)
  have kw1 := hts (.fieldLink RX11 329 "MilkTwice" "rowLength" "I") (List.mem_of_getElem? (i := 2) rfl)
  have kw2 := hts (.fieldLink RX11 9 "MilkTwice" "row" "[I") (List.mem_of_getElem? (i := 3) rfl)
  have kw3 := hts (.fieldLink RX11 61 "MilkTwice" "mind" "LMilkTwice$Mind;") (List.mem_of_getElem? (i := 4) rfl)
  have hinX11 : ∀ w ∈ u_ws RX11 TX11 10, w ∈ wsX11_judge := fun w h => List.mem_cons_of_mem _ (List.mem_append_left _ (List.mem_append_left _ (List.mem_append_left _ (List.mem_append_right _ h))))
  have hinX4 : ∀ w ∈ u_ws RX4 TX4 6, w ∈ wsX11_judge := fun w h => List.mem_cons_of_mem _ (List.mem_append_left _ (List.mem_append_left _ (List.mem_append_right _ h)))
  refine lv_aload_n hx hb dX11_judge_0 rfl (lv_at hl 0 rfl) ?_
  refine mt_getr (C := RX11) (T := TX11) (N := 10) hx hb hts hinX11 hown hI hH mt_T0 rfl 0 (by decide) kw0 rfl rfl dX11_judge_1 ?_
  refine mt_getrN (C := RX4) (T := TX4) (N := 6) hx hb hts hinX4 hown hI hH mt_T10 rfl 0 (by decide) (List.mem_of_getElem? (i := 10) rfl) rfl rfl dX11_judge_4 ?_
  refine lv_iload_n hx hb dX11_judge_7 rfl (lv_at hl 1 rfl) ?_
  refine mt_b1I hf (fun r2 hg1 hf => ?_)
  refine mt_goi (mt_runV (i := 13) (As := [.int a1]) (rest := []) ⟨hx, hb, hml, hown, hts⟩ hI hH (c_X0_has l E 13 (by decide) a1 M u _ hg1) (cwV 1 hts gX11_judge_X0_has rfl rfl rfl (by decide +kernel) ⟨Nat.le_of_ble_eq_true rfl, Nat.le_of_ble_eq_true rfl⟩) mt_T13 rfl rfl hl.1 rfl (Nat.le_of_ble_eq_true rfl) dX11_judge_8 ⟨Nat.zero_le _, Nat.zero_le _⟩) hS (fun H locs hH hS => ?_)
  refine lv_if_ne (tgt := 20) hx hb dX11_judge_11 (by decide) (fun c3 => ?_) (fun c3 => ?_)
  · have hf := mt_ifF c3 hf
    refine lv_bipush (v := (-9)) hx hb dX11_judge_20 (by decide) ?_
    refine lv_istore_n (lv' := [(2, .int (-9 : Int32)), (0, .ref (E.2.1 0)), (1, .int a1)]) hx hb dX11_judge_22 rfl hl (by decide) rfl (fun ls hl => ?_)
    refine lv_iconst (v := 0) hx hb dX11_judge_23 (by decide) ?_
    refine lv_istore_n (lv' := [(3, .int (0 : Int32)), (2, .int (-9 : Int32)), (0, .ref (E.2.1 0)), (1, .int a1)]) hx hb dX11_judge_24 rfl hl (by decide) rfl (fun ls hl => ?_)
    refine mt_lpI3 hf (fun (x4 : Int32) (x5 : Int32) (M6 : mt_M) => ∀ (H : Heap) (locs : List Loc) (ls : Array Slot), mt_H E M6 u H → va_S (mt_A E) s.heap H locs → lv_has ls 4 [(0, .ref (E.2.1 0)), (1, .int a1), (2, .int x4), (3, .int x5)] → W p l e (headSpec wsX11_judge ({ frames := 5, cells := 0, slots := 0, locals := 113 } : Room)).room s mid (([.ref (E.2.1 0), .int a1] : List Value).toArray) below meth c0 H locs 0 0 (MQ below (mt_Qi E r M' u) (([.ref (E.2.1 0), .int a1] : List Value).toArray) s 0 0 (mt_A E)) (F0 mid 25 ls [])) ?_ _ _ _ hH hS (lv_sub hl [2, 3, 1, 0] rfl)
    intro k7 ih8 x4 x5 M6 hf H locs ls hH hS hl
    refine lv_iload_n hx hb dX11_judge_25 rfl (lv_at hl 3 rfl) ?_
    refine lv_aload_n hx hb dX11_judge_26 rfl (lv_at hl 0 rfl) ?_
    refine mt_geti (C := RX11) (T := TX11) (N := 10) hx hb hts hinX11 hown hI hH mt_T0 rfl 8 (by decide) kw1 rfl rfl dX11_judge_27 ?_
    refine mt_jn0 hf (∀ (H : Heap) (locs : List Loc) (ls : Array Slot), mt_H E M6 u H → va_S (mt_A E) s.heap H locs → lv_has ls 4 [(0, .ref (E.2.1 0)), (2, .int x4)] → W p l e (headSpec wsX11_judge ({ frames := 5, cells := 0, slots := 0, locals := 113 } : Room)).room s mid (([.ref (E.2.1 0), .int a1] : List Value).toArray) below meth c0 H locs 0 0 (MQ below (mt_Qi E r M' u) (([.ref (E.2.1 0), .int a1] : List Value).toArray) s 0 0 (mt_A E)) (F0 mid 65 ls [])) ?_ ?_
    · intro hf H locs ls hH hS hl
      refine lv_aload_n hx hb dX11_judge_65 rfl (lv_at hl 0 rfl) ?_
      refine lv_iconst (v := 0) hx hb dX11_judge_66 (by decide) ?_
      refine mt_puti (ty := .int) (C := RX11) (T := TX11) (N := 10) hx hb hts hinX11 tyX11 tyX11_ok nmX11 hown hI hH hS mt_T0 rfl 8 (by decide) kw1 rfl rfl (by decide +kernel) rfl rfl rfl dX11_judge_67 (fun H locs hH hS => ?_)
      refine mt_ltI hf (fun M11 eM11 hf => ?_)
      rw [← eM11] at hH
      refine lv_iload_n hx hb dX11_judge_70 rfl (lv_at hl 1 rfl) ?_
      obtain ⟨i1, i2⟩ := mt_so2 hf
      subst i1
      subst i2
      exact mt_iret hx hb hr hI hH hS hlocks dX11_judge_71
    · intro j9 hj10 hf
      refine lv_icmp_ge (tgt := 65) hx hb dX11_judge_30 (by decide) (fun c12 => ?_) (fun c12 => ?_)
      · have hf := mt_ifT c12 hf
        exact hj10 hf _ _ _ hH hS (lv_sub hl [0, 2] rfl)
      · have hf := mt_ifF c12 hf
        refine lv_iload_n hx hb dX11_judge_33 rfl (lv_at hl 2 rfl) ?_
        refine lv_bipush (v := (-9)) hx hb dX11_judge_34 (by decide) ?_
        refine lv_icmp_ne (tgt := 65) hx hb dX11_judge_36 (by decide) (fun c13 => ?_) (fun c13 => ?_)
        · have hf := mt_ifF c13 hf
          exact hj10 hf _ _ _ hH hS (lv_sub hl [0, 2] rfl)
        · have hf := mt_ifT c13 hf
          refine lv_aload_n hx hb dX11_judge_39 rfl (lv_at hl 0 rfl) ?_
          refine mt_getr (C := RX11) (T := TX11) (N := 10) hx hb hts hinX11 hown hI hH mt_T0 rfl 7 (by decide) kw2 rfl rfl dX11_judge_40 ?_
          refine lv_iload_n hx hb dX11_judge_43 rfl (lv_at hl 3 rfl) ?_
          refine mt_ciI hf (fun q14 hf => ?_)
          refine mt_iald hx hb hI hH mt_T1 q14 dX11_judge_44 ?_
          refine lv_aload_n hx hb dX11_judge_45 rfl (lv_at hl 0 rfl) ?_
          refine mt_getr (C := RX11) (T := TX11) (N := 10) hx hb hts hinX11 hown hI hH mt_T0 rfl 5 (by decide) kw3 rfl rfl dX11_judge_46 ?_
          refine lv_iload_n hx hb dX11_judge_49 rfl (lv_at hl 1 rfl) ?_
          refine lv_iload_n hx hb dX11_judge_50 rfl (lv_at hl 3 rfl) ?_
          refine mt_b2I hf (fun r16 M17 hg15 hf => ?_)
          refine mt_goi (mt_runV (i := 133) (As := [.int a1, .int x5]) (rest := [.int (M6 1 x5.toNatClampNeg)]) ⟨hx, hb, hml, hown, hts⟩ hI hH (c_X8_stockBehind l E a1 x5 M6 u _ _ hg15) (cwV 2 hts gX11_judge_X8_stockBehind rfl rfl rfl (by decide +kernel) ⟨Nat.le_of_ble_eq_true rfl, Nat.le_of_ble_eq_true rfl⟩) mt_T133 rfl rfl hl.1 rfl (Nat.le_of_ble_eq_true rfl) dX11_judge_51 ⟨Nat.zero_le _, Nat.zero_le _⟩) hS (fun H locs hH hS => ?_)
          refine mt_jn1 hf (fun (x18 : Int32) => ∀ (H : Heap) (locs : List Loc) (ls : Array Slot), mt_H E M17 u H → va_S (mt_A E) s.heap H locs → lv_has ls 4 [(0, .ref (E.2.1 0)), (1, .int a1), (2, .int x18), (3, .int x5)] → W p l e (headSpec wsX11_judge ({ frames := 5, cells := 0, slots := 0, locals := 113 } : Room)).room s mid (([.ref (E.2.1 0), .int a1] : List Value).toArray) below meth c0 H locs 0 0 (MQ below (mt_Qi E r M' u) (([.ref (E.2.1 0), .int a1] : List Value).toArray) s 0 0 (mt_A E)) (F0 mid 59 ls [])) ?_ ?_
          · intro x18 hf H locs ls hH hS hl
            refine mt_ltI hf (fun x21 ex21 hf => ?_)
            refine lv_iinc (v := x21) (lv' := [(3, .int x21), (0, .ref (E.2.1 0)), (1, .int a1), (2, .int x18)]) hx hb dX11_judge_59 hl (k := 3) rfl (by rw [ex21]; rfl) (by decide) rfl (fun ls hl => ?_)
            refine lv_goto (tgt := 25) hx hb dX11_judge_62 (by decide) ?_
            exact ih8 x18 x21 M17 hf _ _ _ hH hS (lv_sub hl [1, 2, 3, 0] rfl)
          · intro j19 hj20 hf
            refine lv_icmp_eq (tgt := 59) hx hb dX11_judge_54 (by decide) (fun c22 => ?_) (fun c22 => ?_)
            · have hf := mt_ifT c22 hf
              exact hj20 x4 hf _ _ _ hH hS (lv_sub hl [0, 1, 2, 3] rfl)
            · have hf := mt_ifF c22 hf
              refine lv_iload_n hx hb dX11_judge_57 rfl (lv_at hl 3 rfl) ?_
              refine lv_istore_n (lv' := [(2, .int x5), (0, .ref (E.2.1 0)), (1, .int a1), (3, .int x5)]) hx hb dX11_judge_58 rfl hl (by decide) rfl (fun ls hl => ?_)
              exact hj20 x5 hf _ _ _ hH hS (lv_sub hl [1, 2, 0, 3] rfl)
  · have hf := mt_ifT c3 hf
    refine lv_aload_n hx hb dX11_judge_14 rfl (lv_at hl 0 rfl) ?_
    refine lv_iconst (v := (-1)) hx hb dX11_judge_15 (by decide) ?_
    refine mt_b2I hf (fun r24 M25 hg23 hf => ?_)
    refine mt_goi (mt_runV (i := 0) (As := [.int (-1 : Int32)]) (rest := []) ⟨hx, hb, hml, hown, hts⟩ hI hH (c_X11_refuse l E (-1 : Int32) M u _ _ hg23) (cwV 1 hts gX11_judge_X11_refuse rfl rfl rfl (by decide +kernel) ⟨Nat.le_of_ble_eq_true rfl, Nat.le_of_ble_eq_true rfl⟩) mt_T0 rfl rfl hl.1 rfl (Nat.le_of_ble_eq_true rfl) dX11_judge_16 ⟨Nat.zero_le _, Nat.zero_le _⟩) hS (fun H locs hH hS => ?_)
    obtain ⟨i1, i2⟩ := mt_so2 hf
    subst i1
    subst i2
    exact mt_iret hx hb hr hI hH hS hlocks dX11_judge_19
set_option maxHeartbeats 4000000 in
set_option maxRecDepth 100000 in
theorem c_X11_timesInRow (l : Launch) (E : mt_E) (a1 : Int32) (M : mt_M) (u : mt_U) (r : Int32) (hf : f_X11_timesInRow a1 M = some (r)) : Met l yX11_timesInRow wsX11_timesInRow ({ frames := 0, cells := 0, slots := 0, locals := 0 } : Room) (mt_P E [.ref (E.2.1 0), .int a1] M u) (mt_Qi E r M u) 0 0 (mt_A E) := by
  refine Met.ofW (cc := cX11_timesInRow) (maxL := 4) (ret := (some .int)) (by decide) rfl ?_
  intro p e s mid args below meth c0 s₁ B hml hv
  obtain ⟨rfl, hI, hH⟩ := hv
  have hx := B.exec
  have hb := B.bytes
  have hr := B.returns
  have hts := atoms_spec (ws := wsX11_timesInRow) B.pre
  have hown : s.vm.findClass RX11 = some mid.cls := findClass_of_methodNamed B.named
  have hlocks := B.notSynchronized
  have hS : va_S (mt_A E) s.heap s.heap [] := va_S.rf
  have hl := lv_entry ([.ref (E.2.1 0), .int a1]) (n := 4) (Nat.le_of_ble_eq_true rfl)
  rw [lg_entry_eq]
  generalize (lg_sl ([.ref (E.2.1 0), .int a1]) ++ List.replicate (4 - (lg_sl ([.ref (E.2.1 0), .int a1])).length) Slot.unset).toArray = ls at hl ⊢
  have hl : lv_has ls 4 [(0, .ref (E.2.1 0)), (1, .int a1)] := hl
  unfold f_X11_timesInRow at hf
  have kw0 := hts (.fieldLink RX11 329 "MilkTwice" "rowLength" "I") (List.mem_of_getElem? (i := 1) rfl)
  have kw1 := hts (.fieldLink RX11 9 "MilkTwice" "row" "[I") (List.mem_of_getElem? (i := 2) rfl)
  have hinX11 : ∀ w ∈ u_ws RX11 TX11 10, w ∈ wsX11_timesInRow := fun w h => List.mem_cons_of_mem _ (List.mem_append_right _ h)
  refine lv_iconst (v := 0) hx hb dX11_timesInRow_0 (by decide) ?_
  refine lv_istore_n (lv' := [(2, .int (0 : Int32)), (0, .ref (E.2.1 0)), (1, .int a1)]) hx hb dX11_timesInRow_1 rfl hl (by decide) rfl (fun ls hl => ?_)
  refine lv_iconst (v := 0) hx hb dX11_timesInRow_2 (by decide) ?_
  refine lv_istore_n (lv' := [(3, .int (0 : Int32)), (2, .int (0 : Int32)), (0, .ref (E.2.1 0)), (1, .int a1)]) hx hb dX11_timesInRow_3 rfl hl (by decide) rfl (fun ls hl => ?_)
  refine mt_lpI2 hf (fun (x1 : Int32) (x2 : Int32) => ∀ (H : Heap) (locs : List Loc) (ls : Array Slot), mt_H E M u H → va_S (mt_A E) s.heap H locs → lv_has ls 4 [(0, .ref (E.2.1 0)), (1, .int a1), (2, .int x1), (3, .int x2)] → W p l e (headSpec wsX11_timesInRow ({ frames := 0, cells := 0, slots := 0, locals := 0 } : Room)).room s mid (([.ref (E.2.1 0), .int a1] : List Value).toArray) below meth c0 H locs 0 0 (MQ below (mt_Qi E r M u) (([.ref (E.2.1 0), .int a1] : List Value).toArray) s 0 0 (mt_A E)) (F0 mid 4 ls [])) ?_ _ _ _ hH hS (lv_sub hl [2, 3, 1, 0] rfl)
  intro k3 ih4 x1 x2 hf H locs ls hH hS hl
  refine lv_iload_n hx hb dX11_timesInRow_4 rfl (lv_at hl 3 rfl) ?_
  refine lv_aload_n hx hb dX11_timesInRow_5 rfl (lv_at hl 0 rfl) ?_
  refine mt_geti (C := RX11) (T := TX11) (N := 10) hx hb hts hinX11 hown hI hH mt_T0 rfl 8 (by decide) kw0 rfl rfl dX11_timesInRow_6 ?_
  refine lv_icmp_ge (tgt := 36) hx hb dX11_timesInRow_9 (by decide) (fun c5 => ?_) (fun c5 => ?_)
  · have hf := mt_ifT c5 hf
    refine lv_iload_n hx hb dX11_timesInRow_36 rfl (lv_at hl 2 rfl) ?_
    have i1 := mt_so1 hf
    subst i1
    exact mt_iret hx hb hr hI hH hS hlocks dX11_timesInRow_37
  · have hf := mt_ifF c5 hf
    refine lv_iload_n hx hb dX11_timesInRow_12 rfl (lv_at hl 2 rfl) ?_
    refine lv_aload_n hx hb dX11_timesInRow_13 rfl (lv_at hl 0 rfl) ?_
    refine mt_getr (C := RX11) (T := TX11) (N := 10) hx hb hts hinX11 hown hI hH mt_T0 rfl 7 (by decide) kw1 rfl rfl dX11_timesInRow_14 ?_
    refine lv_iload_n hx hb dX11_timesInRow_17 rfl (lv_at hl 3 rfl) ?_
    refine mt_ciI hf (fun q6 hf => ?_)
    refine mt_iald hx hb hI hH mt_T1 q6 dX11_timesInRow_18 ?_
    refine lv_iload_n hx hb dX11_timesInRow_19 rfl (lv_at hl 1 rfl) ?_
    refine mt_jn1 hf (fun (v7 : Int32) => ∀ (H : Heap) (locs : List Loc) (ls : Array Slot), mt_H E M u H → va_S (mt_A E) s.heap H locs → lv_has ls 4 [(0, .ref (E.2.1 0)), (1, .int a1), (3, .int x2)] → W p l e (headSpec wsX11_timesInRow ({ frames := 0, cells := 0, slots := 0, locals := 0 } : Room)).room s mid (([.ref (E.2.1 0), .int a1] : List Value).toArray) below meth c0 H locs 0 0 (MQ below (mt_Qi E r M u) (([.ref (E.2.1 0), .int a1] : List Value).toArray) s 0 0 (mt_A E)) (F0 mid 28 ls [.int v7, .int x1])) ?_ ?_
    · intro v7 hf H locs ls hH hS hl
      refine lv_iadd hx hb dX11_timesInRow_28 ?_
      refine mt_lti hf (fun x10 ex10 hf => ?_)
      refine lv_istore_n (lv' := [(2, .int x10), (0, .ref (E.2.1 0)), (1, .int a1), (3, .int x2)]) hx hb dX11_timesInRow_29 rfl hl (by decide) rfl (fun ls hl => ?_)
      refine mt_ltI hf (fun x11 ex11 hf => ?_)
      refine lv_iinc (v := x11) (lv' := [(3, .int x11), (2, .int x10), (0, .ref (E.2.1 0)), (1, .int a1)]) hx hb dX11_timesInRow_30 hl (k := 3) rfl (by rw [ex11]; rfl) (by decide) rfl (fun ls hl => ?_)
      refine lv_goto (tgt := 4) hx hb dX11_timesInRow_33 (by decide) ?_
      exact ih4 x10 x11 hf _ _ _ hH hS (lv_sub hl [2, 3, 1, 0] rfl)
    · intro j8 hj9 hf
      refine lv_icmp_ne (tgt := 27) hx hb dX11_timesInRow_20 (by decide) (fun c12 => ?_) (fun c12 => ?_)
      · have hf := mt_ifF c12 hf
        refine lv_iconst (v := 0) hx hb dX11_timesInRow_27 (by decide) ?_
        exact hj9 (0 : Int32) hf _ _ _ hH hS (lv_sub hl [0, 1, 3] rfl)
      · have hf := mt_ifT c12 hf
        refine lv_iconst (v := 1) hx hb dX11_timesInRow_23 (by decide) ?_
        refine lv_goto (tgt := 28) hx hb dX11_timesInRow_24 (by decide) ?_
        exact hj9 (1 : Int32) hf _ _ _ hH hS (lv_sub hl [0, 1, 3] rfl)
set_option maxHeartbeats 4000000 in
set_option maxRecDepth 100000 in
theorem c_X11_biscuits (l : Launch) (E : mt_E) (a1 : Int32) (M : mt_M) (u : mt_U) (r : Int32) (M' : mt_M) (hf : f_X11_biscuits a1 M = some (r, M')) : Met l yX11_biscuits wsX11_biscuits ({ frames := 1, cells := 0, slots := 0, locals := 23 } : Room) (mt_P E [.ref (E.2.1 0), .int a1] M u) (mt_Qi E r M' u) 0 0 (mt_A E) := by
  refine Met.ofW (cc := cX11_biscuits) (maxL := 7) (ret := (some .int)) (by decide) rfl ?_
  intro p e s mid args below meth c0 s₁ B hml hv
  obtain ⟨rfl, hI, hH⟩ := hv
  have hx := B.exec
  have hb := B.bytes
  have hr := B.returns
  have hts := atoms_spec (ws := wsX11_biscuits) B.pre
  have hown : s.vm.findClass RX11 = some mid.cls := findClass_of_methodNamed B.named
  have hlocks := B.notSynchronized
  have hS : va_S (mt_A E) s.heap s.heap [] := va_S.rf
  have hl := lv_entry ([.ref (E.2.1 0), .int a1]) (n := 7) (Nat.le_of_ble_eq_true rfl)
  rw [lg_entry_eq]
  generalize (lg_sl ([.ref (E.2.1 0), .int a1]) ++ List.replicate (7 - (lg_sl ([.ref (E.2.1 0), .int a1])).length) Slot.unset).toArray = ls at hl ⊢
  have hl : lv_has ls 7 [(0, .ref (E.2.1 0)), (1, .int a1)] := hl
  unfold f_X11_biscuits at hf
  have kw0 := hts (.fieldLink RX11 329 "MilkTwice" "rowLength" "I") (List.mem_of_getElem? (i := 1) rfl)
  have kw1 := hts (.fieldLink RX11 39 "MilkTwice" "house" "LMilkTwice$House;") (List.mem_of_getElem? (i := 2) rfl)
  have kw2 := hts (.fieldLink RX11 9 "MilkTwice" "row" "[I") (List.mem_of_getElem? (i := 3) rfl)
  have hinX11 : ∀ w ∈ u_ws RX11 TX11 10, w ∈ wsX11_biscuits := fun w h => List.mem_cons_of_mem _ (List.mem_append_left _ (List.mem_append_left _ (List.mem_append_right _ h)))
  have hinX4 : ∀ w ∈ u_ws RX4 TX4 6, w ∈ wsX11_biscuits := fun w h => List.mem_cons_of_mem _ (List.mem_append_left _ (List.mem_append_right _ h))
  refine lv_iload_n hx hb dX11_biscuits_0 rfl (lv_at hl 1 rfl) ?_
  refine lv_iconst (v := 1) hx hb dX11_biscuits_1 (by decide) ?_
  refine mt_b1I hf (fun r2 hg1 hf => ?_)
  refine mt_goi (mt_runS (As := [.int a1, .int (1 : Int32)]) (rest := []) ⟨hx, hb, hml, hown, hts⟩ hI hH (c_X11_isOneOf l E a1 (1 : Int32) M u _ hg1) (va_cwS 2 hts gX11_biscuits_X11_isOneOf rfl rfl rfl (by decide +kernel) ⟨Nat.le_of_ble_eq_true rfl, Nat.le_of_ble_eq_true rfl⟩) rfl hl.1 rfl (Nat.le_of_ble_eq_true rfl) dX11_biscuits_2 ⟨Nat.zero_le _, Nat.zero_le _⟩) hS (fun H locs hH hS => ?_)
  refine lv_if_ne (tgt := 15) hx hb dX11_biscuits_5 (by decide) (fun c3 => ?_) (fun c3 => ?_)
  · have hf := mt_ifF c3 hf
    refine lv_iconst (v := 0) hx hb dX11_biscuits_15 (by decide) ?_
    refine lv_istore_n (lv' := [(2, .int (0 : Int32)), (0, .ref (E.2.1 0)), (1, .int a1)]) hx hb dX11_biscuits_16 rfl hl (by decide) rfl (fun ls hl => ?_)
    refine mt_lpI1 hf (fun (x4 : Int32) => ∀ (H : Heap) (locs : List Loc) (ls : Array Slot), mt_H E M u H → va_S (mt_A E) s.heap H locs → lv_has ls 7 [(0, .ref (E.2.1 0)), (1, .int a1), (2, .int x4)] → W p l e (headSpec wsX11_biscuits ({ frames := 1, cells := 0, slots := 0, locals := 23 } : Room)).room s mid (([.ref (E.2.1 0), .int a1] : List Value).toArray) below meth c0 H locs 0 0 (MQ below (mt_Qi E r M' u) (([.ref (E.2.1 0), .int a1] : List Value).toArray) s 0 0 (mt_A E)) (F0 mid 17 ls [])) ?_ _ _ _ hH hS (lv_sub hl [1, 2, 0] rfl)
    intro k5 ih6 x4 hf H locs ls hH hS hl
    refine lv_iload_n hx hb dX11_biscuits_17 rfl (lv_at hl 2 rfl) ?_
    refine lv_aload_n hx hb dX11_biscuits_18 rfl (lv_at hl 0 rfl) ?_
    refine mt_geti (C := RX11) (T := TX11) (N := 10) hx hb hts hinX11 hown hI hH mt_T0 rfl 8 (by decide) kw0 rfl rfl dX11_biscuits_19 ?_
    refine lv_icmp_ge (tgt := 57) hx hb dX11_biscuits_22 (by decide) (fun c7 => ?_) (fun c7 => ?_)
    · have hf := mt_ifT c7 hf
      refine lv_iconst (v := 0) hx hb dX11_biscuits_57 (by decide) ?_
      refine lv_istore_n (lv' := [(2, .int (0 : Int32)), (0, .ref (E.2.1 0)), (1, .int a1)]) hx hb dX11_biscuits_58 rfl hl (by decide) rfl (fun ls hl => ?_)
      refine lv_iconst (v := 0) hx hb dX11_biscuits_59 (by decide) ?_
      refine lv_istore_n (lv' := [(3, .int (0 : Int32)), (2, .int (0 : Int32)), (0, .ref (E.2.1 0)), (1, .int a1)]) hx hb dX11_biscuits_60 rfl hl (by decide) rfl (fun ls hl => ?_)
      refine lv_bipush (v := (-9)) hx hb dX11_biscuits_61 (by decide) ?_
      refine lv_istore (lv' := [(4, .int (-9 : Int32)), (3, .int (0 : Int32)), (2, .int (0 : Int32)), (0, .ref (E.2.1 0)), (1, .int a1)]) hx hb dX11_biscuits_63 hl (by decide) rfl (fun ls hl => ?_)
      refine lv_iconst (v := 0) hx hb dX11_biscuits_65 (by decide) ?_
      refine lv_istore (lv' := [(5, .int (0 : Int32)), (4, .int (-9 : Int32)), (3, .int (0 : Int32)), (2, .int (0 : Int32)), (0, .ref (E.2.1 0)), (1, .int a1)]) hx hb dX11_biscuits_66 hl (by decide) rfl (fun ls hl => ?_)
      refine mt_lpI4 hf (fun (x8 : Int32) (x9 : Int32) (x10 : Int32) (x11 : Int32) => ∀ (H : Heap) (locs : List Loc) (ls : Array Slot), mt_H E M u H → va_S (mt_A E) s.heap H locs → lv_has ls 7 [(0, .ref (E.2.1 0)), (1, .int a1), (2, .int x8), (3, .int x9), (4, .int x10), (5, .int x11)] → W p l e (headSpec wsX11_biscuits ({ frames := 1, cells := 0, slots := 0, locals := 23 } : Room)).room s mid (([.ref (E.2.1 0), .int a1] : List Value).toArray) below meth c0 H locs 0 0 (MQ below (mt_Qi E r M' u) (([.ref (E.2.1 0), .int a1] : List Value).toArray) s 0 0 (mt_A E)) (F0 mid 68 ls [])) ?_ _ _ _ hH hS (lv_sub hl [4, 5, 3, 2, 1, 0] rfl)
      intro k12 ih13 x8 x9 x10 x11 hf H locs ls hH hS hl
      refine lv_iload hx hb dX11_biscuits_68 (lv_at hl 5 rfl) ?_
      refine lv_bipush (v := 7) hx hb dX11_biscuits_70 (by decide) ?_
      refine lv_icmp_ge (tgt := 115) hx hb dX11_biscuits_72 (by decide) (fun c14 => ?_) (fun c14 => ?_)
      · have hf := mt_ifT c14 hf
        refine lv_iload_n hx hb dX11_biscuits_115 rfl (lv_at hl 1 rfl) ?_
        refine lv_if_ne (tgt := 123) hx hb dX11_biscuits_116 (by decide) (fun c15 => ?_) (fun c15 => ?_)
        · have hf := mt_ifF c15 hf
          refine lv_iload hx hb dX11_biscuits_123 (lv_at hl 4 rfl) ?_
          obtain ⟨i1, i2⟩ := mt_so2 hf
          subst i1
          subst i2
          exact mt_iret hx hb hr hI hH hS hlocks dX11_biscuits_125
        · have hf := mt_ifT c15 hf
          refine lv_iload_n hx hb dX11_biscuits_119 rfl (lv_at hl 2 rfl) ?_
          refine lv_goto (tgt := 125) hx hb dX11_biscuits_120 (by decide) ?_
          obtain ⟨i1, i2⟩ := mt_so2 hf
          subst i1
          subst i2
          exact mt_iret hx hb hr hI hH hS hlocks dX11_biscuits_125
      · have hf := mt_ifF c14 hf
        refine lv_aload_n hx hb dX11_biscuits_75 rfl (lv_at hl 0 rfl) ?_
        refine lv_iload hx hb dX11_biscuits_76 (lv_at hl 5 rfl) ?_
        refine mt_b1I hf (fun r17 hg16 hf => ?_)
        refine mt_goi (mt_runV (i := 0) (As := [.int x11]) (rest := []) ⟨hx, hb, hml, hown, hts⟩ hI hH (c_X11_timesInRow l E x11 M u _ hg16) (cwV 1 hts gX11_biscuits_X11_timesInRow rfl rfl rfl (by decide +kernel) ⟨Nat.le_of_ble_eq_true rfl, Nat.le_of_ble_eq_true rfl⟩) mt_T0 rfl rfl hl.1 rfl (Nat.le_of_ble_eq_true rfl) dX11_biscuits_78 ⟨Nat.zero_le _, Nat.zero_le _⟩) hS (fun H locs hH hS => ?_)
        refine lv_istore (lv' := [(6, .int r17), (0, .ref (E.2.1 0)), (1, .int a1), (2, .int x8), (3, .int x9), (4, .int x10), (5, .int x11)]) hx hb dX11_biscuits_81 hl (by decide) rfl (fun ls hl => ?_)
        refine lv_iload_n hx hb dX11_biscuits_83 rfl (lv_at hl 3 rfl) ?_
        refine lv_iload hx hb dX11_biscuits_84 (lv_at hl 0 rfl) ?_
        refine mt_jn1 hf (fun (v18 : Int32) => ∀ (H : Heap) (locs : List Loc) (ls : Array Slot), mt_H E M u H → va_S (mt_A E) s.heap H locs → lv_has ls 7 [(0, .ref (E.2.1 0)), (1, .int a1), (3, .int x9), (4, .int x10), (5, .int x11), (6, .int r17)] → W p l e (headSpec wsX11_biscuits ({ frames := 1, cells := 0, slots := 0, locals := 23 } : Room)).room s mid (([.ref (E.2.1 0), .int a1] : List Value).toArray) below meth c0 H locs 0 0 (MQ below (mt_Qi E r M' u) (([.ref (E.2.1 0), .int a1] : List Value).toArray) s 0 0 (mt_A E)) (F0 mid 94 ls [.int v18, .int x8])) ?_ ?_
        · intro v18 hf H locs ls hH hS hl
          refine lv_iadd hx hb dX11_biscuits_94 ?_
          refine mt_lti hf (fun x21 ex21 hf => ?_)
          refine lv_istore_n (lv' := [(2, .int x21), (0, .ref (E.2.1 0)), (1, .int a1), (3, .int x9), (4, .int x10), (5, .int x11), (6, .int r17)]) hx hb dX11_biscuits_95 rfl hl (by decide) rfl (fun ls hl => ?_)
          refine lv_iload hx hb dX11_biscuits_96 (lv_at hl 6 rfl) ?_
          refine lv_iload_n hx hb dX11_biscuits_98 rfl (lv_at hl 3 rfl) ?_
          refine mt_jn2 hf (fun (x22 : Int32) (x23 : Int32) => ∀ (H : Heap) (locs : List Loc) (ls : Array Slot), mt_H E M u H → va_S (mt_A E) s.heap H locs → lv_has ls 7 [(0, .ref (E.2.1 0)), (1, .int a1), (2, .int x21), (3, .int x22), (4, .int x23), (5, .int x11)] → W p l e (headSpec wsX11_biscuits ({ frames := 1, cells := 0, slots := 0, locals := 23 } : Room)).room s mid (([.ref (E.2.1 0), .int a1] : List Value).toArray) below meth c0 H locs 0 0 (MQ below (mt_Qi E r M' u) (([.ref (E.2.1 0), .int a1] : List Value).toArray) s 0 0 (mt_A E)) (F0 mid 109 ls [])) ?_ ?_
          · intro x22 x23 hf H locs ls hH hS hl
            refine mt_ltI hf (fun x26 ex26 hf => ?_)
            refine lv_iinc (v := x26) (lv' := [(5, .int x26), (0, .ref (E.2.1 0)), (1, .int a1), (2, .int x21), (3, .int x22), (4, .int x23)]) hx hb dX11_biscuits_109 hl (k := 5) rfl (by rw [ex26]; rfl) (by decide) rfl (fun ls hl => ?_)
            refine lv_goto (tgt := 68) hx hb dX11_biscuits_112 (by decide) ?_
            exact ih13 x21 x22 x23 x26 hf _ _ _ hH hS (lv_sub hl [1, 2, 3, 4, 5, 0] rfl)
          · intro j24 hj25 hf
            refine lv_icmp_le (tgt := 109) hx hb dX11_biscuits_99 (by decide) (fun c27 => ?_) (fun c27 => ?_)
            · have hf := mt_ifT c27 hf
              exact hj25 x9 x10 hf _ _ _ hH hS (lv_sub hl [1, 2, 0, 3, 4, 5] rfl)
            · have hf := mt_ifF c27 hf
              refine lv_iload hx hb dX11_biscuits_102 (lv_at hl 6 rfl) ?_
              refine lv_istore_n (lv' := [(3, .int r17), (2, .int x21), (0, .ref (E.2.1 0)), (1, .int a1), (4, .int x10), (5, .int x11), (6, .int r17)]) hx hb dX11_biscuits_104 rfl hl (by decide) rfl (fun ls hl => ?_)
              refine lv_iload hx hb dX11_biscuits_105 (lv_at hl 5 rfl) ?_
              refine lv_istore (lv' := [(4, .int x11), (3, .int r17), (2, .int x21), (0, .ref (E.2.1 0)), (1, .int a1), (5, .int x11), (6, .int r17)]) hx hb dX11_biscuits_107 hl (by decide) rfl (fun ls hl => ?_)
              exact hj25 r17 x11 hf _ _ _ hH hS (lv_sub hl [3, 4, 2, 1, 0, 5] rfl)
        · intro j19 hj20 hf
          refine lv_if_le (tgt := 93) hx hb dX11_biscuits_86 (by decide) (fun c28 => ?_) (fun c28 => ?_)
          · have hf := mt_ifT c28 hf
            refine lv_iconst (v := 0) hx hb dX11_biscuits_93 (by decide) ?_
            exact hj20 (0 : Int32) hf _ _ _ hH hS (lv_sub hl [1, 2, 4, 5, 6, 0] rfl)
          · have hf := mt_ifF c28 hf
            refine lv_iconst (v := 1) hx hb dX11_biscuits_89 (by decide) ?_
            refine lv_goto (tgt := 94) hx hb dX11_biscuits_90 (by decide) ?_
            exact hj20 (1 : Int32) hf _ _ _ hH hS (lv_sub hl [1, 2, 4, 5, 6, 0] rfl)
    · have hf := mt_ifF c7 hf
      refine lv_aload_n hx hb dX11_biscuits_25 rfl (lv_at hl 0 rfl) ?_
      refine mt_getr (C := RX11) (T := TX11) (N := 10) hx hb hts hinX11 hown hI hH mt_T0 rfl 0 (by decide) kw1 rfl rfl dX11_biscuits_26 ?_
      refine mt_getrN (C := RX4) (T := TX4) (N := 6) hx hb hts hinX4 hown hI hH mt_T10 rfl 0 (by decide) (List.mem_of_getElem? (i := 10) rfl) rfl rfl dX11_biscuits_29 ?_
      refine lv_aload_n hx hb dX11_biscuits_32 rfl (lv_at hl 0 rfl) ?_
      refine mt_getr (C := RX11) (T := TX11) (N := 10) hx hb hts hinX11 hown hI hH mt_T0 rfl 7 (by decide) kw2 rfl rfl dX11_biscuits_33 ?_
      refine lv_iload_n hx hb dX11_biscuits_36 rfl (lv_at hl 2 rfl) ?_
      refine mt_ciI hf (fun q29 hf => ?_)
      refine mt_iald hx hb hI hH mt_T1 q29 dX11_biscuits_37 ?_
      refine mt_b1I hf (fun r31 hg30 hf => ?_)
      refine mt_goi (mt_runV (i := 13) (As := [.int (M 1 x4.toNatClampNeg)]) (rest := []) ⟨hx, hb, hml, hown, hts⟩ hI hH (c_X0_has l E 13 (by decide) (M 1 x4.toNatClampNeg) M u _ hg30) (cwV 1 hts gX11_biscuits_X0_has rfl rfl rfl (by decide +kernel) ⟨Nat.le_of_ble_eq_true rfl, Nat.le_of_ble_eq_true rfl⟩) mt_T13 rfl rfl hl.1 rfl (Nat.le_of_ble_eq_true rfl) dX11_biscuits_38 ⟨Nat.zero_le _, Nat.zero_le _⟩) hS (fun H locs hH hS => ?_)
      refine lv_if_ne (tgt := 51) hx hb dX11_biscuits_41 (by decide) (fun c32 => ?_) (fun c32 => ?_)
      · have hf := mt_ifF c32 hf
        refine mt_ltI hf (fun x33 ex33 hf => ?_)
        refine lv_iinc (v := x33) (lv' := [(2, .int x33), (0, .ref (E.2.1 0)), (1, .int a1)]) hx hb dX11_biscuits_51 hl (k := 2) rfl (by rw [ex33]; rfl) (by decide) rfl (fun ls hl => ?_)
        refine lv_goto (tgt := 17) hx hb dX11_biscuits_54 (by decide) ?_
        exact ih6 x33 hf _ _ _ hH hS (lv_sub hl [1, 2, 0] rfl)
      · have hf := mt_ifT c32 hf
        refine lv_aload_n hx hb dX11_biscuits_44 rfl (lv_at hl 0 rfl) ?_
        refine lv_bipush (v := (-3)) hx hb dX11_biscuits_45 (by decide) ?_
        refine mt_b2I hf (fun r35 M36 hg34 hf => ?_)
        refine mt_goi (mt_runV (i := 0) (As := [.int (-3 : Int32)]) (rest := []) ⟨hx, hb, hml, hown, hts⟩ hI hH (c_X11_refuse l E (-3 : Int32) M u _ _ hg34) (cwV 1 hts gX11_biscuits_X11_refuse rfl rfl rfl (by decide +kernel) ⟨Nat.le_of_ble_eq_true rfl, Nat.le_of_ble_eq_true rfl⟩) mt_T0 rfl rfl hl.1 rfl (Nat.le_of_ble_eq_true rfl) dX11_biscuits_47 ⟨Nat.zero_le _, Nat.zero_le _⟩) hS (fun H locs hH hS => ?_)
        obtain ⟨i1, i2⟩ := mt_so2 hf
        subst i1
        subst i2
        exact mt_iret hx hb hr hI hH hS hlocks dX11_biscuits_50
  · have hf := mt_ifT c3 hf
    refine lv_aload_n hx hb dX11_biscuits_8 rfl (lv_at hl 0 rfl) ?_
    refine lv_bipush (v := (-2)) hx hb dX11_biscuits_9 (by decide) ?_
    refine mt_b2I hf (fun r38 M39 hg37 hf => ?_)
    refine mt_goi (mt_runV (i := 0) (As := [.int (-2 : Int32)]) (rest := []) ⟨hx, hb, hml, hown, hts⟩ hI hH (c_X11_refuse l E (-2 : Int32) M u _ _ hg37) (cwV 1 hts gX11_biscuits_X11_refuse rfl rfl rfl (by decide +kernel) ⟨Nat.le_of_ble_eq_true rfl, Nat.le_of_ble_eq_true rfl⟩) mt_T0 rfl rfl hl.1 rfl (Nat.le_of_ble_eq_true rfl) dX11_biscuits_11 ⟨Nat.zero_le _, Nat.zero_le _⟩) hS (fun H locs hH hS => ?_)
    obtain ⟨i1, i2⟩ := mt_so2 hf
    subst i1
    subst i2
    exact mt_iret hx hb hr hI hH hS hlocks dX11_biscuits_14
set_option maxHeartbeats 4000000 in
set_option maxRecDepth 100000 in
theorem c_X11_isRowOfLines (l : Launch) (E : mt_E)  (M : mt_M) (u : mt_U) (r : Int32) (hf : f_X11_isRowOfLines M = some (r)) : Met l yX11_isRowOfLines wsX11_isRowOfLines ({ frames := 2, cells := 0, slots := 0, locals := 43 } : Room) (mt_P E [.ref (E.2.1 0)] M u) (mt_Qi E r M u) 0 0 (mt_A E) := by
  refine Met.ofW (cc := cX11_isRowOfLines) (maxL := 3) (ret := (some .boolean)) (by decide) rfl ?_
  intro p e s mid args below meth c0 s₁ B hml hv
  obtain ⟨rfl, hI, hH⟩ := hv
  have hx := B.exec
  have hb := B.bytes
  have hr := B.returns
  have hts := atoms_spec (ws := wsX11_isRowOfLines) B.pre
  have hown : s.vm.findClass RX11 = some mid.cls := findClass_of_methodNamed B.named
  have hlocks := B.notSynchronized
  have hS : va_S (mt_A E) s.heap s.heap [] := va_S.rf
  have hl := lv_entry ([.ref (E.2.1 0)]) (n := 3) (Nat.le_of_ble_eq_true rfl)
  rw [lg_entry_eq]
  generalize (lg_sl ([.ref (E.2.1 0)]) ++ List.replicate (3 - (lg_sl ([.ref (E.2.1 0)])).length) Slot.unset).toArray = ls at hl ⊢
  have hl : lv_has ls 3 [(0, .ref (E.2.1 0))] := hl
  unfold f_X11_isRowOfLines at hf
  have kw0 := hts (.fieldLink RX11 329 "MilkTwice" "rowLength" "I") (List.mem_of_getElem? (i := 1) rfl)
  have kw1 := hts (.fieldLink RX11 39 "MilkTwice" "house" "LMilkTwice$House;") (List.mem_of_getElem? (i := 2) rfl)
  have kw2 := hts (.fieldLink RX11 9 "MilkTwice" "row" "[I") (List.mem_of_getElem? (i := 3) rfl)
  have hinX11 : ∀ w ∈ u_ws RX11 TX11 10, w ∈ wsX11_isRowOfLines := fun w h => List.mem_cons_of_mem _ (List.mem_append_left _ (List.mem_append_left _ (List.mem_append_right _ h)))
  refine lv_aload_n hx hb dX11_isRowOfLines_0 rfl (lv_at hl 0 rfl) ?_
  refine mt_geti (C := RX11) (T := TX11) (N := 10) hx hb hts hinX11 hown hI hH mt_T0 rfl 8 (by decide) kw0 rfl rfl dX11_isRowOfLines_1 ?_
  refine lv_bipush (v := 6) hx hb dX11_isRowOfLines_4 (by decide) ?_
  refine mt_jn1 hf (fun (v1 : Int32) => ∀ (H : Heap) (locs : List Loc) (ls : Array Slot), mt_H E M u H → va_S (mt_A E) s.heap H locs → lv_has ls 3 [(0, .ref (E.2.1 0))] → W p l e (headSpec wsX11_isRowOfLines ({ frames := 2, cells := 0, slots := 0, locals := 43 } : Room)).room s mid (([.ref (E.2.1 0)] : List Value).toArray) below meth c0 H locs 0 0 (MQ below (mt_Qi E r M u) (([.ref (E.2.1 0)] : List Value).toArray) s 0 0 (mt_A E)) (F0 mid 14 ls [.int v1])) ?_ ?_
  · intro v1 hf H locs ls hH hS hl
    refine lv_istore_n (lv' := [(1, .int v1), (0, .ref (E.2.1 0))]) hx hb dX11_isRowOfLines_14 rfl hl (by decide) rfl (fun ls hl => ?_)
    refine lv_iconst (v := 0) hx hb dX11_isRowOfLines_15 (by decide) ?_
    refine lv_istore_n (lv' := [(2, .int (0 : Int32)), (1, .int v1), (0, .ref (E.2.1 0))]) hx hb dX11_isRowOfLines_16 rfl hl (by decide) rfl (fun ls hl => ?_)
    refine mt_lpI2 hf (fun (x4 : Int32) (x5 : Int32) => ∀ (H : Heap) (locs : List Loc) (ls : Array Slot), mt_H E M u H → va_S (mt_A E) s.heap H locs → lv_has ls 3 [(0, .ref (E.2.1 0)), (1, .int x4), (2, .int x5)] → W p l e (headSpec wsX11_isRowOfLines ({ frames := 2, cells := 0, slots := 0, locals := 43 } : Room)).room s mid (([.ref (E.2.1 0)] : List Value).toArray) below meth c0 H locs 0 0 (MQ below (mt_Qi E r M u) (([.ref (E.2.1 0)] : List Value).toArray) s 0 0 (mt_A E)) (F0 mid 17 ls [])) ?_ _ _ _ hH hS (lv_sub hl [2, 1, 0] rfl)
    intro k6 ih7 x4 x5 hf H locs ls hH hS hl
    refine lv_iload_n hx hb dX11_isRowOfLines_17 rfl (lv_at hl 2 rfl) ?_
    refine lv_aload_n hx hb dX11_isRowOfLines_18 rfl (lv_at hl 0 rfl) ?_
    refine mt_geti (C := RX11) (T := TX11) (N := 10) hx hb hts hinX11 hown hI hH mt_T0 rfl 8 (by decide) kw0 rfl rfl dX11_isRowOfLines_19 ?_
    refine lv_icmp_ge (tgt := 69) hx hb dX11_isRowOfLines_22 (by decide) (fun c8 => ?_) (fun c8 => ?_)
    · have hf := mt_ifT c8 hf
      refine lv_iload_n hx hb dX11_isRowOfLines_69 rfl (lv_at hl 1 rfl) ?_
      refine mt_ckI hf (fun q9 hf => ?_)
      have i1 := mt_so1 hf
      subst i1
      exact mt_zret hx hb hr hI hH hS q9 hlocks dX11_isRowOfLines_70
    · have hf := mt_ifF c8 hf
      refine lv_iload_n hx hb dX11_isRowOfLines_25 rfl (lv_at hl 1 rfl) ?_
      refine mt_jn1 hf (fun (v10 : Int32) => ∀ (H : Heap) (locs : List Loc) (ls : Array Slot), mt_H E M u H → va_S (mt_A E) s.heap H locs → lv_has ls 3 [(0, .ref (E.2.1 0)), (2, .int x5)] → W p l e (headSpec wsX11_isRowOfLines ({ frames := 2, cells := 0, slots := 0, locals := 43 } : Room)).room s mid (([.ref (E.2.1 0)] : List Value).toArray) below meth c0 H locs 0 0 (MQ below (mt_Qi E r M u) (([.ref (E.2.1 0)] : List Value).toArray) s 0 0 (mt_A E)) (F0 mid 62 ls [.int v10])) ?_ ?_
      · intro v10 hf H locs ls hH hS hl
        refine lv_istore_n (lv' := [(1, .int v10), (0, .ref (E.2.1 0)), (2, .int x5)]) hx hb dX11_isRowOfLines_62 rfl hl (by decide) rfl (fun ls hl => ?_)
        refine mt_ltI hf (fun x13 ex13 hf => ?_)
        refine lv_iinc (v := x13) (lv' := [(2, .int x13), (1, .int v10), (0, .ref (E.2.1 0))]) hx hb dX11_isRowOfLines_63 hl (k := 2) rfl (by rw [ex13]; rfl) (by decide) rfl (fun ls hl => ?_)
        refine lv_goto (tgt := 17) hx hb dX11_isRowOfLines_66 (by decide) ?_
        exact ih7 v10 x13 hf _ _ _ hH hS (lv_sub hl [2, 1, 0] rfl)
      · intro j11 hj12 hf
        refine mt_jn0 hf (∀ (H : Heap) (locs : List Loc) (ls : Array Slot), mt_H E M u H → va_S (mt_A E) s.heap H locs → lv_has ls 3 [(0, .ref (E.2.1 0)), (2, .int x5)] → W p l e (headSpec wsX11_isRowOfLines ({ frames := 2, cells := 0, slots := 0, locals := 43 } : Room)).room s mid (([.ref (E.2.1 0)] : List Value).toArray) below meth c0 H locs 0 0 (MQ below (mt_Qi E r M u) (([.ref (E.2.1 0)] : List Value).toArray) s 0 0 (mt_A E)) (F0 mid 61 ls [])) ?_ ?_
        · intro hf H locs ls hH hS hl
          refine lv_iconst (v := 0) hx hb dX11_isRowOfLines_61 (by decide) ?_
          exact hj12 (0 : Int32) hf _ _ _ hH hS (lv_sub hl [0, 1] rfl)
        · intro j14 hj15 hf
          refine lv_if_eq (tgt := 61) hx hb dX11_isRowOfLines_26 (by decide) (fun c16 => ?_) (fun c16 => ?_)
          · have hf := mt_ifT c16 hf
            exact hj15 hf _ _ _ hH hS (lv_sub hl [0, 2] rfl)
          · have hf := mt_ifF c16 hf
            refine lv_aload_n hx hb dX11_isRowOfLines_29 rfl (lv_at hl 0 rfl) ?_
            refine mt_getr (C := RX11) (T := TX11) (N := 10) hx hb hts hinX11 hown hI hH mt_T0 rfl 0 (by decide) kw1 rfl rfl dX11_isRowOfLines_30 ?_
            refine lv_aload_n hx hb dX11_isRowOfLines_33 rfl (lv_at hl 0 rfl) ?_
            refine mt_getr (C := RX11) (T := TX11) (N := 10) hx hb hts hinX11 hown hI hH mt_T0 rfl 7 (by decide) kw2 rfl rfl dX11_isRowOfLines_34 ?_
            refine lv_iload_n hx hb dX11_isRowOfLines_37 rfl (lv_at hl 2 rfl) ?_
            refine mt_ciI hf (fun q17 hf => ?_)
            refine mt_iald hx hb hI hH mt_T1 q17 dX11_isRowOfLines_38 ?_
            refine lv_bipush (v := 10) hx hb dX11_isRowOfLines_39 (by decide) ?_
            refine lv_idiv hx hb dX11_isRowOfLines_41 (by decide) ?_
            refine lv_aload_n hx hb dX11_isRowOfLines_42 rfl (lv_at hl 0 rfl) ?_
            refine mt_getr (C := RX11) (T := TX11) (N := 10) hx hb hts hinX11 hown hI hH mt_T0 rfl 7 (by decide) kw2 rfl rfl dX11_isRowOfLines_43 ?_
            refine lv_iload_n hx hb dX11_isRowOfLines_46 rfl (lv_at hl 2 rfl) ?_
            refine mt_ciI hf (fun q18 hf => ?_)
            refine mt_iald hx hb hI hH mt_T1 q18 dX11_isRowOfLines_47 ?_
            refine lv_bipush (v := 10) hx hb dX11_isRowOfLines_48 (by decide) ?_
            refine lv_irem hx hb dX11_isRowOfLines_50 (by decide) ?_
            refine mt_b1I hf (fun r20 hg19 hf => ?_)
            refine mt_goi (mt_runV (i := 10) (As := [.int ((M 1 x5.toNatClampNeg) / (10 : Int32)), .int ((M 1 x5.toNatClampNeg) - (M 1 x5.toNatClampNeg) / (10 : Int32) * (10 : Int32))]) (rest := []) ⟨hx, hb, hml, hown, hts⟩ hI hH (c_X4_isLine l E 10 (by decide) ((M 1 x5.toNatClampNeg) / (10 : Int32)) ((M 1 x5.toNatClampNeg) - (M 1 x5.toNatClampNeg) / (10 : Int32) * (10 : Int32)) M u _ hg19) (cwV 2 hts gX11_isRowOfLines_X4_isLine rfl rfl rfl (by decide +kernel) ⟨Nat.le_of_ble_eq_true rfl, Nat.le_of_ble_eq_true rfl⟩) mt_T10 rfl rfl hl.1 rfl (Nat.le_of_ble_eq_true rfl) dX11_isRowOfLines_51 ⟨Nat.zero_le _, Nat.zero_le _⟩) hS (fun H locs hH hS => ?_)
            refine lv_if_eq (tgt := 61) hx hb dX11_isRowOfLines_54 (by decide) (fun c21 => ?_) (fun c21 => ?_)
            · have hf := mt_ifT c21 hf
              exact hj15 hf _ _ _ hH hS (lv_sub hl [0, 2] rfl)
            · have hf := mt_ifF c21 hf
              refine lv_iconst (v := 1) hx hb dX11_isRowOfLines_57 (by decide) ?_
              refine lv_goto (tgt := 62) hx hb dX11_isRowOfLines_58 (by decide) ?_
              exact hj12 (1 : Int32) hf _ _ _ hH hS (lv_sub hl [0, 2] rfl)
  · intro j2 hj3 hf
    refine lv_icmp_gt (tgt := 13) hx hb dX11_isRowOfLines_6 (by decide) (fun c22 => ?_) (fun c22 => ?_)
    · have hf := mt_ifT c22 hf
      refine lv_iconst (v := 0) hx hb dX11_isRowOfLines_13 (by decide) ?_
      exact hj3 (0 : Int32) hf _ _ _ hH hS (lv_sub hl [0] rfl)
    · have hf := mt_ifF c22 hf
      refine lv_iconst (v := 1) hx hb dX11_isRowOfLines_9 (by decide) ?_
      refine lv_goto (tgt := 14) hx hb dX11_isRowOfLines_10 (by decide) ?_
      exact hj3 (1 : Int32) hf _ _ _ hH hS (lv_sub hl [0] rfl)
set_option maxHeartbeats 4000000 in
set_option maxRecDepth 100000 in
theorem c_X11_boughtIfHeard (l : Launch) (E : mt_E) (a1 : Int32) (M : mt_M) (u : mt_U) (r : Int32) (hf : f_X11_boughtIfHeard a1 M = some (r)) : Met l yX11_boughtIfHeard wsX11_boughtIfHeard ({ frames := 0, cells := 0, slots := 0, locals := 0 } : Room) (mt_P E [.ref (E.2.1 0), .int a1] M u) (mt_Qi E r M u) 0 0 (mt_A E) := by
  refine Met.ofW (cc := cX11_boughtIfHeard) (maxL := 7) (ret := (some .int)) (by decide) rfl ?_
  intro p e s mid args below meth c0 s₁ B hml hv
  obtain ⟨rfl, hI, hH⟩ := hv
  have hx := B.exec
  have hb := B.bytes
  have hr := B.returns
  have hts := atoms_spec (ws := wsX11_boughtIfHeard) B.pre
  have hown : s.vm.findClass RX11 = some mid.cls := findClass_of_methodNamed B.named
  have hlocks := B.notSynchronized
  have hS : va_S (mt_A E) s.heap s.heap [] := va_S.rf
  have hl := lv_entry ([.ref (E.2.1 0), .int a1]) (n := 7) (Nat.le_of_ble_eq_true rfl)
  rw [lg_entry_eq]
  generalize (lg_sl ([.ref (E.2.1 0), .int a1]) ++ List.replicate (7 - (lg_sl ([.ref (E.2.1 0), .int a1])).length) Slot.unset).toArray = ls at hl ⊢
  have hl : lv_has ls 7 [(0, .ref (E.2.1 0)), (1, .int a1)] := hl
  unfold f_X11_boughtIfHeard at hf
  have kw0 := hts (.fieldLink RX11 329 "MilkTwice" "rowLength" "I") (List.mem_of_getElem? (i := 1) rfl)
  have kw1 := hts (.fieldLink RX11 9 "MilkTwice" "row" "[I") (List.mem_of_getElem? (i := 2) rfl)
  have hinX11 : ∀ w ∈ u_ws RX11 TX11 10, w ∈ wsX11_boughtIfHeard := fun w h => List.mem_cons_of_mem _ (List.mem_append_right _ h)
  refine lv_bipush (v := 127) hx hb dX11_boughtIfHeard_0 (by decide) ?_
  refine lv_istore_n (lv' := [(2, .int (127 : Int32)), (0, .ref (E.2.1 0)), (1, .int a1)]) hx hb dX11_boughtIfHeard_2 rfl hl (by decide) rfl (fun ls hl => ?_)
  refine lv_bipush (v := 127) hx hb dX11_boughtIfHeard_3 (by decide) ?_
  refine lv_istore_n (lv' := [(3, .int (127 : Int32)), (2, .int (127 : Int32)), (0, .ref (E.2.1 0)), (1, .int a1)]) hx hb dX11_boughtIfHeard_5 rfl hl (by decide) rfl (fun ls hl => ?_)
  refine lv_iconst (v := 0) hx hb dX11_boughtIfHeard_6 (by decide) ?_
  refine lv_istore (lv' := [(4, .int (0 : Int32)), (3, .int (127 : Int32)), (2, .int (127 : Int32)), (0, .ref (E.2.1 0)), (1, .int a1)]) hx hb dX11_boughtIfHeard_7 hl (by decide) rfl (fun ls hl => ?_)
  refine lv_iconst (v := 0) hx hb dX11_boughtIfHeard_9 (by decide) ?_
  refine lv_istore (lv' := [(5, .int (0 : Int32)), (4, .int (0 : Int32)), (3, .int (127 : Int32)), (2, .int (127 : Int32)), (0, .ref (E.2.1 0)), (1, .int a1)]) hx hb dX11_boughtIfHeard_10 hl (by decide) rfl (fun ls hl => ?_)
  refine mt_lpI4 hf (fun (x1 : Int32) (x2 : Int32) (x3 : Int32) (x4 : Int32) => ∀ (H : Heap) (locs : List Loc) (ls : Array Slot), mt_H E M u H → va_S (mt_A E) s.heap H locs → lv_has ls 7 [(0, .ref (E.2.1 0)), (1, .int a1), (2, .int x1), (3, .int x2), (4, .int x3), (5, .int x4)] → W p l e (headSpec wsX11_boughtIfHeard ({ frames := 0, cells := 0, slots := 0, locals := 0 } : Room)).room s mid (([.ref (E.2.1 0), .int a1] : List Value).toArray) below meth c0 H locs 0 0 (MQ below (mt_Qi E r M u) (([.ref (E.2.1 0), .int a1] : List Value).toArray) s 0 0 (mt_A E)) (F0 mid 12 ls [])) ?_ _ _ _ hH hS (lv_sub hl [4, 5, 3, 2, 1, 0] rfl)
  intro k5 ih6 x1 x2 x3 x4 hf H locs ls hH hS hl
  refine lv_iload hx hb dX11_boughtIfHeard_12 (lv_at hl 5 rfl) ?_
  refine lv_aload_n hx hb dX11_boughtIfHeard_14 rfl (lv_at hl 0 rfl) ?_
  refine mt_geti (C := RX11) (T := TX11) (N := 10) hx hb hts hinX11 hown hI hH mt_T0 rfl 8 (by decide) kw0 rfl rfl dX11_boughtIfHeard_15 ?_
  refine lv_icmp_ge (tgt := 127) hx hb dX11_boughtIfHeard_18 (by decide) (fun c7 => ?_) (fun c7 => ?_)
  · have hf := mt_ifT c7 hf
    refine lv_iload hx hb dX11_boughtIfHeard_127 (lv_at hl 4 rfl) ?_
    have i1 := mt_so1 hf
    subst i1
    exact mt_iret hx hb hr hI hH hS hlocks dX11_boughtIfHeard_129
  · have hf := mt_ifF c7 hf
    refine lv_iload hx hb dX11_boughtIfHeard_21 (lv_at hl 5 rfl) ?_
    refine mt_jn2 hf (fun (x8 : Int32) (x9 : Int32) => ∀ (H : Heap) (locs : List Loc) (ls : Array Slot), mt_H E M u H → va_S (mt_A E) s.heap H locs → lv_has ls 7 [(0, .ref (E.2.1 0)), (1, .int a1), (2, .int x8), (3, .int x9), (4, .int x3), (5, .int x4)] → W p l e (headSpec wsX11_boughtIfHeard ({ frames := 0, cells := 0, slots := 0, locals := 0 } : Room)).room s mid (([.ref (E.2.1 0), .int a1] : List Value).toArray) below meth c0 H locs 0 0 (MQ below (mt_Qi E r M u) (([.ref (E.2.1 0), .int a1] : List Value).toArray) s 0 0 (mt_A E)) (F0 mid 44 ls [])) ?_ ?_
    · intro x8 x9 hf H locs ls hH hS hl
      refine lv_iconst (v := 1) hx hb dX11_boughtIfHeard_44 (by decide) ?_
      refine lv_aload_n hx hb dX11_boughtIfHeard_45 rfl (lv_at hl 0 rfl) ?_
      refine mt_getr (C := RX11) (T := TX11) (N := 10) hx hb hts hinX11 hown hI hH mt_T0 rfl 7 (by decide) kw1 rfl rfl dX11_boughtIfHeard_46 ?_
      refine lv_iload hx hb dX11_boughtIfHeard_49 (lv_at hl 5 rfl) ?_
      refine mt_ciI hf (fun q12 hf => ?_)
      refine mt_iald hx hb hI hH mt_T1 q12 dX11_boughtIfHeard_51 ?_
      refine lv_bipush (v := 10) hx hb dX11_boughtIfHeard_52 (by decide) ?_
      refine lv_irem hx hb dX11_boughtIfHeard_54 (by decide) ?_
      refine lv_ishl hx hb dX11_boughtIfHeard_55 ?_
      refine mt_lti hf (fun x13 ex13 hf => ?_)
      refine lv_istore (lv' := [(6, .int x13), (0, .ref (E.2.1 0)), (1, .int a1), (2, .int x8), (3, .int x9), (4, .int x3), (5, .int x4)]) hx hb dX11_boughtIfHeard_56 hl (by decide) rfl (fun ls hl => ?_)
      refine lv_aload_n hx hb dX11_boughtIfHeard_58 rfl (lv_at hl 1 rfl) ?_
      refine mt_getr (C := RX11) (T := TX11) (N := 10) hx hb hts hinX11 hown hI hH mt_T0 rfl 7 (by decide) kw1 rfl rfl dX11_boughtIfHeard_59 ?_
      refine lv_iload hx hb dX11_boughtIfHeard_62 (lv_at hl 6 rfl) ?_
      refine mt_ciI hf (fun q14 hf => ?_)
      refine mt_iald hx hb hI hH mt_T1 q14 dX11_boughtIfHeard_64 ?_
      refine lv_bipush (v := 10) hx hb dX11_boughtIfHeard_65 (by decide) ?_
      refine mt_jn3 hf (fun (x15 : Int32) (x16 : Int32) (x17 : Int32) => ∀ (H : Heap) (locs : List Loc) (ls : Array Slot), mt_H E M u H → va_S (mt_A E) s.heap H locs → lv_has ls 7 [(0, .ref (E.2.1 0)), (1, .int a1), (2, .int x15), (3, .int x16), (4, .int x17), (5, .int x4)] → W p l e (headSpec wsX11_boughtIfHeard ({ frames := 0, cells := 0, slots := 0, locals := 0 } : Room)).room s mid (([.ref (E.2.1 0), .int a1] : List Value).toArray) below meth c0 H locs 0 0 (MQ below (mt_Qi E r M u) (([.ref (E.2.1 0), .int a1] : List Value).toArray) s 0 0 (mt_A E)) (F0 mid 121 ls [])) ?_ ?_
      · intro x15 x16 x17 hf H locs ls hH hS hl
        refine mt_ltI hf (fun x20 ex20 hf => ?_)
        refine lv_iinc (v := x20) (lv' := [(5, .int x20), (0, .ref (E.2.1 0)), (1, .int a1), (2, .int x15), (3, .int x16), (4, .int x17)]) hx hb dX11_boughtIfHeard_121 hl (k := 5) rfl (by rw [ex20]; rfl) (by decide) rfl (fun ls hl => ?_)
        refine lv_goto (tgt := 12) hx hb dX11_boughtIfHeard_124 (by decide) ?_
        exact ih6 x15 x16 x17 x20 hf _ _ _ hH hS (lv_sub hl [1, 2, 3, 4, 5, 0] rfl)
      · intro j18 hj19 hf
        refine lv_icmp_ge (tgt := 97) hx hb dX11_boughtIfHeard_67 (by decide) (fun c21 => ?_) (fun c21 => ?_)
        · have hf := mt_ifT c21 hf
          refine lv_iload hx hb dX11_boughtIfHeard_97 (lv_at hl 5 rfl) ?_
          refine lv_iload_n hx hb dX11_boughtIfHeard_99 rfl (lv_at hl 4 rfl) ?_
          refine lv_iload hx hb dX11_boughtIfHeard_100 (lv_at hl 0 rfl) ?_
          refine lv_iand hx hb dX11_boughtIfHeard_102 ?_
          refine mt_jn1 hf (fun (v22 : Int32) => ∀ (H : Heap) (locs : List Loc) (ls : Array Slot), mt_H E M u H → va_S (mt_A E) s.heap H locs → lv_has ls 7 [(0, .ref (E.2.1 0)), (1, .int a1), (2, .int x8), (3, .int x9), (5, .int x4), (6, .int x13)] → W p l e (headSpec wsX11_boughtIfHeard ({ frames := 0, cells := 0, slots := 0, locals := 0 } : Room)).room s mid (([.ref (E.2.1 0), .int a1] : List Value).toArray) below meth c0 H locs 0 0 (MQ below (mt_Qi E r M u) (([.ref (E.2.1 0), .int a1] : List Value).toArray) s 0 0 (mt_A E)) (F0 mid 111 ls [.int v22, .int x3])) ?_ ?_
          · intro v22 hf H locs ls hH hS hl
            refine lv_iadd hx hb dX11_boughtIfHeard_111 ?_
            refine mt_lti hf (fun x25 ex25 hf => ?_)
            refine lv_istore (lv' := [(4, .int x25), (0, .ref (E.2.1 0)), (1, .int a1), (2, .int x8), (3, .int x9), (5, .int x4), (6, .int x13)]) hx hb dX11_boughtIfHeard_112 hl (by decide) rfl (fun ls hl => ?_)
            refine lv_iload_n hx hb dX11_boughtIfHeard_114 rfl (lv_at hl 4 rfl) ?_
            refine lv_iload hx hb dX11_boughtIfHeard_115 (lv_at hl 6 rfl) ?_
            refine lv_iconst (v := (-1)) hx hb dX11_boughtIfHeard_117 (by decide) ?_
            refine lv_ixor hx hb dX11_boughtIfHeard_118 ?_
            refine lv_iand hx hb dX11_boughtIfHeard_119 ?_
            refine mt_lti hf (fun x26 ex26 hf => ?_)
            refine lv_istore_n (lv' := [(3, .int x26), (4, .int x25), (0, .ref (E.2.1 0)), (1, .int a1), (2, .int x8), (5, .int x4), (6, .int x13)]) hx hb dX11_boughtIfHeard_120 rfl hl (by decide) rfl (fun ls hl => ?_)
            exact hj19 x8 x26 x25 hf _ _ _ hH hS (lv_sub hl [2, 3, 4, 0, 1, 5] rfl)
          · intro j23 hj24 hf
            refine lv_if_eq (tgt := 110) hx hb dX11_boughtIfHeard_103 (by decide) (fun c27 => ?_) (fun c27 => ?_)
            · have hf := mt_ifT c27 hf
              refine lv_iconst (v := 0) hx hb dX11_boughtIfHeard_110 (by decide) ?_
              exact hj24 (0 : Int32) hf _ _ _ hH hS (lv_sub hl [1, 2, 3, 4, 6, 0] rfl)
            · have hf := mt_ifF c27 hf
              refine lv_iconst (v := 1) hx hb dX11_boughtIfHeard_106 (by decide) ?_
              refine lv_goto (tgt := 111) hx hb dX11_boughtIfHeard_107 (by decide) ?_
              exact hj24 (1 : Int32) hf _ _ _ hH hS (lv_sub hl [1, 2, 3, 4, 6, 0] rfl)
        · have hf := mt_ifF c21 hf
          refine lv_iload hx hb dX11_boughtIfHeard_70 (lv_at hl 5 rfl) ?_
          refine lv_iload_n hx hb dX11_boughtIfHeard_72 rfl (lv_at hl 3 rfl) ?_
          refine lv_iload hx hb dX11_boughtIfHeard_73 (lv_at hl 0 rfl) ?_
          refine lv_iand hx hb dX11_boughtIfHeard_75 ?_
          refine mt_jn1 hf (fun (v28 : Int32) => ∀ (H : Heap) (locs : List Loc) (ls : Array Slot), mt_H E M u H → va_S (mt_A E) s.heap H locs → lv_has ls 7 [(0, .ref (E.2.1 0)), (1, .int a1), (2, .int x8), (3, .int x9), (5, .int x4), (6, .int x13)] → W p l e (headSpec wsX11_boughtIfHeard ({ frames := 0, cells := 0, slots := 0, locals := 0 } : Room)).room s mid (([.ref (E.2.1 0), .int a1] : List Value).toArray) below meth c0 H locs 0 0 (MQ below (mt_Qi E r M u) (([.ref (E.2.1 0), .int a1] : List Value).toArray) s 0 0 (mt_A E)) (F0 mid 84 ls [.int v28, .int x3])) ?_ ?_
          · intro v28 hf H locs ls hH hS hl
            refine lv_iadd hx hb dX11_boughtIfHeard_84 ?_
            refine mt_lti hf (fun x31 ex31 hf => ?_)
            refine lv_istore (lv' := [(4, .int x31), (0, .ref (E.2.1 0)), (1, .int a1), (2, .int x8), (3, .int x9), (5, .int x4), (6, .int x13)]) hx hb dX11_boughtIfHeard_85 hl (by decide) rfl (fun ls hl => ?_)
            refine lv_iload_n hx hb dX11_boughtIfHeard_87 rfl (lv_at hl 3 rfl) ?_
            refine lv_iload hx hb dX11_boughtIfHeard_88 (lv_at hl 6 rfl) ?_
            refine lv_iconst (v := (-1)) hx hb dX11_boughtIfHeard_90 (by decide) ?_
            refine lv_ixor hx hb dX11_boughtIfHeard_91 ?_
            refine lv_iand hx hb dX11_boughtIfHeard_92 ?_
            refine mt_lti hf (fun x32 ex32 hf => ?_)
            refine lv_istore_n (lv' := [(2, .int x32), (4, .int x31), (0, .ref (E.2.1 0)), (1, .int a1), (3, .int x9), (5, .int x4), (6, .int x13)]) hx hb dX11_boughtIfHeard_93 rfl hl (by decide) rfl (fun ls hl => ?_)
            refine lv_goto (tgt := 121) hx hb dX11_boughtIfHeard_94 (by decide) ?_
            exact hj19 x32 x9 x31 hf _ _ _ hH hS (lv_sub hl [2, 3, 0, 4, 1, 5] rfl)
          · intro j29 hj30 hf
            refine lv_if_eq (tgt := 83) hx hb dX11_boughtIfHeard_76 (by decide) (fun c33 => ?_) (fun c33 => ?_)
            · have hf := mt_ifT c33 hf
              refine lv_iconst (v := 0) hx hb dX11_boughtIfHeard_83 (by decide) ?_
              exact hj30 (0 : Int32) hf _ _ _ hH hS (lv_sub hl [1, 2, 3, 4, 6, 0] rfl)
            · have hf := mt_ifF c33 hf
              refine lv_iconst (v := 1) hx hb dX11_boughtIfHeard_79 (by decide) ?_
              refine lv_goto (tgt := 84) hx hb dX11_boughtIfHeard_80 (by decide) ?_
              exact hj30 (1 : Int32) hf _ _ _ hH hS (lv_sub hl [1, 2, 3, 4, 6, 0] rfl)
    · intro j10 hj11 hf
      refine lv_if_le (tgt := 44) hx hb dX11_boughtIfHeard_23 (by decide) (fun c34 => ?_) (fun c34 => ?_)
      · have hf := mt_ifT c34 hf
        exact hj11 x1 x2 hf _ _ _ hH hS (lv_sub hl [0, 1, 2, 3, 4, 5] rfl)
      · have hf := mt_ifF c34 hf
        refine lv_iload_n hx hb dX11_boughtIfHeard_26 rfl (lv_at hl 1 rfl) ?_
        refine lv_iload hx hb dX11_boughtIfHeard_27 (lv_at hl 5 rfl) ?_
        refine lv_iconst (v := 1) hx hb dX11_boughtIfHeard_29 (by decide) ?_
        refine lv_isub hx hb dX11_boughtIfHeard_30 ?_
        refine lv_ishr hx hb dX11_boughtIfHeard_31 ?_
        refine lv_iconst (v := 1) hx hb dX11_boughtIfHeard_32 (by decide) ?_
        refine lv_iand hx hb dX11_boughtIfHeard_33 ?_
        refine lv_iconst (v := 1) hx hb dX11_boughtIfHeard_34 (by decide) ?_
        refine lv_icmp_ne (tgt := 44) hx hb dX11_boughtIfHeard_35 (by decide) (fun c35 => ?_) (fun c35 => ?_)
        · have hf := mt_ifF c35 hf
          exact hj11 x1 x2 hf _ _ _ hH hS (lv_sub hl [0, 1, 2, 3, 4, 5] rfl)
        · have hf := mt_ifT c35 hf
          refine lv_iload_n hx hb dX11_boughtIfHeard_38 rfl (lv_at hl 2 rfl) ?_
          refine lv_iload_n hx hb dX11_boughtIfHeard_39 rfl (lv_at hl 3 rfl) ?_
          refine lv_iand hx hb dX11_boughtIfHeard_40 ?_
          refine mt_lti hf (fun x36 ex36 hf => ?_)
          refine lv_istore_n (lv' := [(2, .int x36), (0, .ref (E.2.1 0)), (1, .int a1), (3, .int x2), (4, .int x3), (5, .int x4)]) hx hb dX11_boughtIfHeard_41 rfl hl (by decide) rfl (fun ls hl => ?_)
          refine lv_iload_n hx hb dX11_boughtIfHeard_42 rfl (lv_at hl 0 rfl) ?_
          refine lv_istore_n (lv' := [(3, .int x36), (2, .int x36), (0, .ref (E.2.1 0)), (1, .int a1), (4, .int x3), (5, .int x4)]) hx hb dX11_boughtIfHeard_43 rfl hl (by decide) rfl (fun ls hl => ?_)
          exact hj11 x36 x36 hf _ _ _ hH hS (lv_sub hl [2, 3, 1, 0, 4, 5] rfl)
set_option maxHeartbeats 4000000 in
set_option maxRecDepth 100000 in
theorem c_X11_fridge (l : Launch) (E : mt_E) (a1 : Int32) (a2 : Int32) (M : mt_M) (u : mt_U) (r : Int32) (M' : mt_M) (hf : f_X11_fridge a1 a2 M = some (r, M')) : Met l yX11_fridge wsX11_fridge ({ frames := 3, cells := 0, slots := 0, locals := 65 } : Room) (mt_P E [.ref (E.2.1 0), .int a1, .int a2] M u) (mt_Qi E r M' u) 0 0 (mt_A E) := by
  refine Met.ofW (cc := cX11_fridge) (maxL := 8) (ret := (some .int)) (by decide) rfl ?_
  intro p e s mid args below meth c0 s₁ B hml hv
  obtain ⟨rfl, hI, hH⟩ := hv
  have hx := B.exec
  have hb := B.bytes
  have hr := B.returns
  have hts := atoms_spec (ws := wsX11_fridge) B.pre
  have hown : s.vm.findClass RX11 = some mid.cls := findClass_of_methodNamed B.named
  have hlocks := B.notSynchronized
  have hS : va_S (mt_A E) s.heap s.heap [] := va_S.rf
  have hl := lv_entry ([.ref (E.2.1 0), .int a1, .int a2]) (n := 8) (Nat.le_of_ble_eq_true rfl)
  rw [lg_entry_eq]
  generalize (lg_sl ([.ref (E.2.1 0), .int a1, .int a2]) ++ List.replicate (8 - (lg_sl ([.ref (E.2.1 0), .int a1, .int a2])).length) Slot.unset).toArray = ls at hl ⊢
  have hl : lv_has ls 8 [(0, .ref (E.2.1 0)), (1, .int a1), (2, .int a2)] := hl
  unfold f_X11_fridge at hf
  have kw0 := hts (.fieldLink RX11 329 "MilkTwice" "rowLength" "I") (List.mem_of_getElem? (i := 1) rfl)
  have kw1 := hts (.methodLink RX11 88 Lib.Math.max.name) (List.mem_of_getElem? (i := 2) rfl)
  have kw2 := hts (.static Lib.Math.max.name) (List.mem_of_getElem? (i := 3) rfl)
  have kw3 := hts (.initialized "java/lang/Math") (List.mem_of_getElem? (i := 4) rfl)
  have kw4 := hts (.code Lib.Math.max.name Lib.Math.max.code 2 (some .int)) (List.mem_of_getElem? (i := 5) rfl)
  have hinX11 : ∀ w ∈ u_ws RX11 TX11 10, w ∈ wsX11_fridge := fun w h => List.mem_cons_of_mem _ (List.mem_append_left _ (List.mem_append_left _ (List.mem_append_right _ h)))
  refine lv_iload_n hx hb dX11_fridge_0 rfl (lv_at hl 1 rfl) ?_
  refine lv_iconst (v := 0) hx hb dX11_fridge_1 (by decide) ?_
  refine lv_bipush (v := 99) hx hb dX11_fridge_2 (by decide) ?_
  refine mt_b1I hf (fun r2 hg1 hf => ?_)
  refine mt_goi (mt_runS (As := [.int a1, .int (0 : Int32), .int (99 : Int32)]) (rest := []) ⟨hx, hb, hml, hown, hts⟩ hI hH (c_X11_outside l E a1 (0 : Int32) (99 : Int32) M u _ hg1) (va_cwS 3 hts gX11_fridge_X11_outside rfl rfl rfl (by decide +kernel) ⟨Nat.le_of_ble_eq_true rfl, Nat.le_of_ble_eq_true rfl⟩) rfl hl.1 rfl (Nat.le_of_ble_eq_true rfl) dX11_fridge_4 ⟨Nat.zero_le _, Nat.zero_le _⟩) hS (fun H locs hH hS => ?_)
  refine lv_iload_n hx hb dX11_fridge_7 rfl (lv_at hl 2 rfl) ?_
  refine lv_iconst (v := 1) hx hb dX11_fridge_8 (by decide) ?_
  refine mt_b1I hf (fun r4 hg3 hf => ?_)
  refine mt_goi (mt_runS (As := [.int a2, .int (1 : Int32)]) (rest := [.int r2]) ⟨hx, hb, hml, hown, hts⟩ hI hH (c_X11_isOneOf l E a2 (1 : Int32) M u _ hg3) (va_cwS 2 hts gX11_fridge_X11_isOneOf rfl rfl rfl (by decide +kernel) ⟨Nat.le_of_ble_eq_true rfl, Nat.le_of_ble_eq_true rfl⟩) rfl hl.1 rfl (Nat.le_of_ble_eq_true rfl) dX11_fridge_9 ⟨Nat.zero_le _, Nat.zero_le _⟩) hS (fun H locs hH hS => ?_)
  refine lv_bipush (v := (-2)) hx hb dX11_fridge_12 (by decide) ?_
  refine mt_b1I hf (fun r6 hg5 hf => ?_)
  refine mt_goi (mt_runS (As := [.int r2, .int r4, .int (-2 : Int32)]) (rest := []) ⟨hx, hb, hml, hown, hts⟩ hI hH (c_X11_firstOf l E r2 r4 (-2 : Int32) M u _ hg5) (va_cwS 3 hts gX11_fridge_X11_firstOf rfl rfl rfl (by decide +kernel) ⟨Nat.le_of_ble_eq_true rfl, Nat.le_of_ble_eq_true rfl⟩) rfl hl.1 rfl (Nat.le_of_ble_eq_true rfl) dX11_fridge_14 ⟨Nat.zero_le _, Nat.zero_le _⟩) hS (fun H locs hH hS => ?_)
  refine lv_istore_n (lv' := [(3, .int r6), (0, .ref (E.2.1 0)), (1, .int a1), (2, .int a2)]) hx hb dX11_fridge_17 rfl hl (by decide) rfl (fun ls hl => ?_)
  refine lv_iload_n hx hb dX11_fridge_18 rfl (lv_at hl 0 rfl) ?_
  refine lv_aload_n hx hb dX11_fridge_19 rfl (lv_at hl 1 rfl) ?_
  refine mt_b1I hf (fun r8 hg7 hf => ?_)
  refine mt_goi (mt_runV (i := 0) (As := []) (rest := [.int r6]) ⟨hx, hb, hml, hown, hts⟩ hI hH (c_X11_isRowOfLines l E M u _ hg7) (cwV 0 hts gX11_fridge_X11_isRowOfLines rfl rfl rfl (by decide +kernel) ⟨Nat.le_of_ble_eq_true rfl, Nat.le_of_ble_eq_true rfl⟩) mt_T0 rfl rfl hl.1 rfl (Nat.le_of_ble_eq_true rfl) dX11_fridge_20 ⟨Nat.zero_le _, Nat.zero_le _⟩) hS (fun H locs hH hS => ?_)
  refine lv_bipush (v := (-3)) hx hb dX11_fridge_23 (by decide) ?_
  refine mt_b1I hf (fun r10 hg9 hf => ?_)
  refine mt_goi (mt_runS (As := [.int r6, .int r8, .int (-3 : Int32)]) (rest := []) ⟨hx, hb, hml, hown, hts⟩ hI hH (c_X11_firstOf l E r6 r8 (-3 : Int32) M u _ hg9) (va_cwS 3 hts gX11_fridge_X11_firstOf rfl rfl rfl (by decide +kernel) ⟨Nat.le_of_ble_eq_true rfl, Nat.le_of_ble_eq_true rfl⟩) rfl hl.1 rfl (Nat.le_of_ble_eq_true rfl) dX11_fridge_25 ⟨Nat.zero_le _, Nat.zero_le _⟩) hS (fun H locs hH hS => ?_)
  refine lv_istore_n (lv' := [(3, .int r10), (0, .ref (E.2.1 0)), (1, .int a1), (2, .int a2)]) hx hb dX11_fridge_28 rfl hl (by decide) rfl (fun ls hl => ?_)
  refine lv_iload_n hx hb dX11_fridge_29 rfl (lv_at hl 0 rfl) ?_
  refine lv_if_eq (tgt := 39) hx hb dX11_fridge_30 (by decide) (fun c11 => ?_) (fun c11 => ?_)
  · have hf := mt_ifT c11 hf
    refine lv_iconst (v := 0) hx hb dX11_fridge_39 (by decide) ?_
    refine lv_istore (lv' := [(4, .int (0 : Int32)), (3, .int r10), (0, .ref (E.2.1 0)), (1, .int a1), (2, .int a2)]) hx hb dX11_fridge_40 hl (by decide) rfl (fun ls hl => ?_)
    refine lv_bipush (v := (-9)) hx hb dX11_fridge_42 (by decide) ?_
    refine lv_istore (lv' := [(5, .int (-9 : Int32)), (4, .int (0 : Int32)), (3, .int r10), (0, .ref (E.2.1 0)), (1, .int a1), (2, .int a2)]) hx hb dX11_fridge_44 hl (by decide) rfl (fun ls hl => ?_)
    refine lv_iconst (v := 0) hx hb dX11_fridge_46 (by decide) ?_
    refine lv_aload_n hx hb dX11_fridge_47 rfl (lv_at hl 3 rfl) ?_
    refine mt_geti (C := RX11) (T := TX11) (N := 10) hx hb hts hinX11 hown hI hH mt_T0 rfl 8 (by decide) kw0 rfl rfl dX11_fridge_48 ?_
    refine lv_iconst (v := 1) hx hb dX11_fridge_51 (by decide) ?_
    refine lv_isub hx hb dX11_fridge_52 ?_
    refine va_mmax hx hb (hml.trans hl.1.symm) hown kw1 kw2 kw3 kw4 (Nat.le_of_ble_eq_true rfl) (Nat.le_of_ble_eq_true rfl) (Nat.zero_le _) (Nat.zero_le _) dX11_fridge_53 ?_
    refine mt_lti hf (fun x12 ex12 hf => ?_)
    refine lv_istore (lv' := [(6, .int x12), (5, .int (-9 : Int32)), (4, .int (0 : Int32)), (3, .int r10), (0, .ref (E.2.1 0)), (1, .int a1), (2, .int a2)]) hx hb dX11_fridge_56 hl (by decide) rfl (fun ls hl => ?_)
    refine lv_iconst (v := 1) hx hb dX11_fridge_58 (by decide) ?_
    refine lv_iload hx hb dX11_fridge_59 (lv_at hl 0 rfl) ?_
    refine lv_ishl hx hb dX11_fridge_61 ?_
    refine lv_iconst (v := 1) hx hb dX11_fridge_62 (by decide) ?_
    refine lv_isub hx hb dX11_fridge_63 ?_
    refine mt_lti hf (fun x13 ex13 hf => ?_)
    refine lv_istore (lv' := [(7, .int x13), (6, .int x12), (5, .int (-9 : Int32)), (4, .int (0 : Int32)), (3, .int r10), (0, .ref (E.2.1 0)), (1, .int a1), (2, .int a2)]) hx hb dX11_fridge_64 hl (by decide) rfl (fun ls hl => ?_)
    refine mt_lpI3 hf (fun (x14 : Int32) (x15 : Int32) (x16 : Int32) => ∀ (H : Heap) (locs : List Loc) (ls : Array Slot), mt_H E M u H → va_S (mt_A E) s.heap H locs → lv_has ls 8 [(0, .ref (E.2.1 0)), (1, .int a1), (2, .int a2), (4, .int x14), (5, .int x15), (7, .int x16)] → W p l e (headSpec wsX11_fridge ({ frames := 3, cells := 0, slots := 0, locals := 65 } : Room)).room s mid (([.ref (E.2.1 0), .int a1, .int a2] : List Value).toArray) below meth c0 H locs 0 0 (MQ below (mt_Qi E r M' u) (([.ref (E.2.1 0), .int a1, .int a2] : List Value).toArray) s 0 0 (mt_A E)) (F0 mid 66 ls [])) ?_ _ _ _ hH hS (lv_sub hl [5, 6, 7, 3, 2, 0] rfl)
    intro k17 ih18 x14 x15 x16 hf H locs ls hH hS hl
    refine lv_iload hx hb dX11_fridge_66 (lv_at hl 5 rfl) ?_
    refine lv_if_lt (tgt := 94) hx hb dX11_fridge_68 (by decide) (fun c19 => ?_) (fun c19 => ?_)
    · have hf := mt_ifT c19 hf
      refine lv_iload_n hx hb dX11_fridge_94 rfl (lv_at hl 2 rfl) ?_
      refine lv_if_ne (tgt := 103) hx hb dX11_fridge_95 (by decide) (fun c20 => ?_) (fun c20 => ?_)
      · have hf := mt_ifF c20 hf
        refine lv_iload hx hb dX11_fridge_103 (lv_at hl 4 rfl) ?_
        obtain ⟨i1, i2⟩ := mt_so2 hf
        subst i1
        subst i2
        exact mt_iret hx hb hr hI hH hS hlocks dX11_fridge_105
      · have hf := mt_ifT c20 hf
        refine lv_iload hx hb dX11_fridge_98 (lv_at hl 3 rfl) ?_
        refine lv_goto (tgt := 105) hx hb dX11_fridge_100 (by decide) ?_
        obtain ⟨i1, i2⟩ := mt_so2 hf
        subst i1
        subst i2
        exact mt_iret hx hb hr hI hH hS hlocks dX11_fridge_105
    · have hf := mt_ifF c19 hf
      refine lv_aload_n hx hb dX11_fridge_71 rfl (lv_at hl 0 rfl) ?_
      refine lv_iload hx hb dX11_fridge_72 (lv_at hl 5 rfl) ?_
      refine mt_b1I hf (fun r22 hg21 hf => ?_)
      refine mt_goi (mt_runV (i := 0) (As := [.int x16]) (rest := []) ⟨hx, hb, hml, hown, hts⟩ hI hH (c_X11_boughtIfHeard l E x16 M u _ hg21) (cwV 1 hts gX11_fridge_X11_boughtIfHeard rfl rfl rfl (by decide +kernel) ⟨Nat.le_of_ble_eq_true rfl, Nat.le_of_ble_eq_true rfl⟩) mt_T0 rfl rfl hl.1 rfl (Nat.le_of_ble_eq_true rfl) dX11_fridge_74 ⟨Nat.zero_le _, Nat.zero_le _⟩) hS (fun H locs hH hS => ?_)
      refine lv_iload_n hx hb dX11_fridge_77 rfl (lv_at hl 1 rfl) ?_
      refine mt_jn2 hf (fun (x23 : Int32) (x24 : Int32) => ∀ (H : Heap) (locs : List Loc) (ls : Array Slot), mt_H E M u H → va_S (mt_A E) s.heap H locs → lv_has ls 8 [(0, .ref (E.2.1 0)), (1, .int a1), (2, .int a2), (4, .int x23), (5, .int x24), (7, .int x16)] → W p l e (headSpec wsX11_fridge ({ frames := 3, cells := 0, slots := 0, locals := 65 } : Room)).room s mid (([.ref (E.2.1 0), .int a1, .int a2] : List Value).toArray) below meth c0 H locs 0 0 (MQ below (mt_Qi E r M' u) (([.ref (E.2.1 0), .int a1, .int a2] : List Value).toArray) s 0 0 (mt_A E)) (F0 mid 88 ls [])) ?_ ?_
      · intro x23 x24 hf H locs ls hH hS hl
        refine mt_ltI hf (fun x27 ex27 hf => ?_)
        refine lv_iinc (v := x27) (lv' := [(7, .int x27), (0, .ref (E.2.1 0)), (1, .int a1), (2, .int a2), (4, .int x23), (5, .int x24)]) hx hb dX11_fridge_88 hl (k := 5) rfl (by rw [ex27]; rfl) (by decide) rfl (fun ls hl => ?_)
        refine lv_goto (tgt := 66) hx hb dX11_fridge_91 (by decide) ?_
        exact ih18 x23 x24 x27 hf _ _ _ hH hS (lv_sub hl [1, 2, 3, 4, 5, 0] rfl)
      · intro j25 hj26 hf
        refine lv_icmp_ne (tgt := 88) hx hb dX11_fridge_78 (by decide) (fun c28 => ?_) (fun c28 => ?_)
        · have hf := mt_ifF c28 hf
          exact hj26 x14 x15 hf _ _ _ hH hS (lv_sub hl [0, 1, 2, 3, 4, 5] rfl)
        · have hf := mt_ifT c28 hf
          refine mt_ltI hf (fun x29 ex29 hf => ?_)
          refine lv_iinc (v := x29) (lv' := [(4, .int x29), (0, .ref (E.2.1 0)), (1, .int a1), (2, .int a2), (5, .int x15), (7, .int x16)]) hx hb dX11_fridge_81 hl (k := 3) rfl (by rw [ex29]; rfl) (by decide) rfl (fun ls hl => ?_)
          refine lv_iload hx hb dX11_fridge_84 (lv_at hl 5 rfl) ?_
          refine lv_istore (lv' := [(5, .int x16), (4, .int x29), (0, .ref (E.2.1 0)), (1, .int a1), (2, .int a2), (7, .int x16)]) hx hb dX11_fridge_86 hl (by decide) rfl (fun ls hl => ?_)
          exact hj26 x29 x16 hf _ _ _ hH hS (lv_sub hl [2, 3, 4, 1, 0, 5] rfl)
  · have hf := mt_ifF c11 hf
    refine lv_aload_n hx hb dX11_fridge_33 rfl (lv_at hl 1 rfl) ?_
    refine lv_iload_n hx hb dX11_fridge_34 rfl (lv_at hl 0 rfl) ?_
    refine mt_b2I hf (fun r31 M32 hg30 hf => ?_)
    refine mt_goi (mt_runV (i := 0) (As := [.int r10]) (rest := []) ⟨hx, hb, hml, hown, hts⟩ hI hH (c_X11_refuse l E r10 M u _ _ hg30) (cwV 1 hts gX11_fridge_X11_refuse rfl rfl rfl (by decide +kernel) ⟨Nat.le_of_ble_eq_true rfl, Nat.le_of_ble_eq_true rfl⟩) mt_T0 rfl rfl hl.1 rfl (Nat.le_of_ble_eq_true rfl) dX11_fridge_35 ⟨Nat.zero_le _, Nat.zero_le _⟩) hS (fun H locs hH hS => ?_)
    obtain ⟨i1, i2⟩ := mt_so2 hf
    subst i1
    subst i2
    exact mt_iret hx hb hr hI hH hS hlocks dX11_fridge_38
set_option maxHeartbeats 4000000 in
set_option maxRecDepth 100000 in
theorem c_X11_image (l : Launch) (E : mt_E)  (M : mt_M) (u : mt_U) (r : Int32) (M' : mt_M) (hf : f_X11_image M = some (r, M')) : Met l yX11_image wsX11_image ({ frames := 3, cells := 0, slots := 0, locals := 68 } : Room) (mt_P E [.ref (E.2.1 0)] M u) (mt_Qi E r M' u) 0 0 (mt_A E) := by
  refine Met.ofW (cc := cX11_image) (maxL := 1) (ret := (some .int)) (by decide) rfl ?_
  intro p e s mid args below meth c0 s₁ B hml hv
  obtain ⟨rfl, hI, hH⟩ := hv
  have hx := B.exec
  have hb := B.bytes
  have hr := B.returns
  have hts := atoms_spec (ws := wsX11_image) B.pre
  have hown : s.vm.findClass RX11 = some mid.cls := findClass_of_methodNamed B.named
  have hlocks := B.notSynchronized
  have hS : va_S (mt_A E) s.heap s.heap [] := va_S.rf
  have hl := lv_entry ([.ref (E.2.1 0)]) (n := 1) (Nat.le_of_ble_eq_true rfl)
  rw [lg_entry_eq]
  generalize (lg_sl ([.ref (E.2.1 0)]) ++ List.replicate (1 - (lg_sl ([.ref (E.2.1 0)])).length) Slot.unset).toArray = ls at hl ⊢
  have hl : lv_has ls 1 [(0, .ref (E.2.1 0))] := hl
  unfold f_X11_image at hf
  have kw0 := hts (.fieldLink RX11 46 "MilkTwice" "picture" "LMilkTwice$House;") (List.mem_of_getElem? (i := 1) rfl)
  have kw1 := hts (.fieldLink RX11 39 "MilkTwice" "house" "LMilkTwice$House;") (List.mem_of_getElem? (i := 2) rfl)
  have kw2 := hts (.fieldLink RX11 341 "MilkTwice" "pictured" "Z") (List.mem_of_getElem? (i := 3) rfl)
  have hinX11 : ∀ w ∈ u_ws RX11 TX11 10, w ∈ wsX11_image := fun w h => List.mem_cons_of_mem _ (List.mem_append_left _ (List.mem_append_left _ (List.mem_append_right _ h)))
  have hinX4 : ∀ w ∈ u_ws RX4 TX4 6, w ∈ wsX11_image := fun w h => List.mem_cons_of_mem _ (List.mem_append_left _ (List.mem_append_right _ h))
  refine lv_aload_n hx hb dX11_image_0 rfl (lv_at hl 0 rfl) ?_
  refine mt_getr (C := RX11) (T := TX11) (N := 10) hx hb hts hinX11 hown hI hH mt_T0 rfl 2 (by decide) kw0 rfl rfl dX11_image_1 ?_
  refine lv_aload_n hx hb dX11_image_4 rfl (lv_at hl 0 rfl) ?_
  refine mt_getr (C := RX11) (T := TX11) (N := 10) hx hb hts hinX11 hown hI hH mt_T0 rfl 0 (by decide) kw1 rfl rfl dX11_image_5 ?_
  refine mt_b1I hf (fun M2 hg1 hf => ?_)
  refine mt_gov (mt_runV (i := 32) (As := [.ref (E.2.1 10)]) (rest := []) ⟨hx, hb, hml, hown, hts⟩ hI hH (c_X4_become l E 32 (by decide) 10 (by decide) M u _ hg1) (cwV 1 hts gX11_image_X4_become rfl rfl rfl (by decide +kernel) ⟨Nat.le_of_ble_eq_true rfl, Nat.le_of_ble_eq_true rfl⟩) mt_T32 rfl rfl hl.1 rfl (Nat.le_of_ble_eq_true rfl) dX11_image_8 ⟨Nat.zero_le _, Nat.zero_le _⟩) hS (fun H locs hH hS => ?_)
  refine lv_aload_n hx hb dX11_image_11 rfl (lv_at hl 0 rfl) ?_
  refine lv_iconst (v := 1) hx hb dX11_image_12 (by decide) ?_
  refine mt_puti (ty := .boolean) (C := RX11) (T := TX11) (N := 10) hx hb hts hinX11 tyX11 tyX11_ok nmX11 hown hI hH hS mt_T0 rfl 3 (by decide) kw2 rfl rfl (by decide +kernel) rfl rfl rfl dX11_image_13 (fun H locs hH hS => ?_)
  refine mt_ltI hf (fun M3 eM3 hf => ?_)
  rw [← eM3] at hH
  refine lv_aload_n hx hb dX11_image_16 rfl (lv_at hl 0 rfl) ?_
  refine mt_getr (C := RX11) (T := TX11) (N := 10) hx hb hts hinX11 hown hI hH mt_T0 rfl 0 (by decide) kw1 rfl rfl dX11_image_17 ?_
  refine mt_getiN (C := RX4) (T := TX4) (N := 6) hx hb hts hinX4 hown hI hH mt_T10 rfl 3 (by decide) (List.mem_of_getElem? (i := 12) rfl) rfl rfl dX11_image_20 ?_
  obtain ⟨i1, i2⟩ := mt_so2 hf
  subst i1
  subst i2
  exact mt_iret hx hb hr hI hH hS hlocks dX11_image_23

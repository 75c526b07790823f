/-! THE WALKS, laid by program: each method returns what its pure function says, and leaves the memory so -/
set_option maxHeartbeats 4000000 in
set_option maxRecDepth 100000 in
theorem c_X11_skew (l : Launch) (E : mt_E) (a1 : Int32) (M : mt_M) (u : mt_U) (r : Int32) (M' : mt_M) (hf : f_X11_skew a1 M = some (r, M')) : Met l yX11_skew wsX11_skew ({ frames := 1, cells := 0, slots := 0, locals := 24 } : Room) (mt_P E [.ref (E.2.1 0), .int a1] M u) (mt_Qi E r M' u) 0 0 (mt_A E) := by
  refine Met.ofW (cc := cX11_skew) (maxL := 3) (ret := (some .int)) (by decide) rfl ?_
  intro p e s mid args below meth c0 s₁ B hml hv
  obtain ⟨rfl, hI, hH⟩ := hv
  have hx := B.exec
  have hb := B.bytes
  have hr := B.returns
  have hts := atoms_spec (ws := wsX11_skew) B.pre
  have hown : s.vm.findClass RX11 = some mid.cls := findClass_of_methodNamed B.named
  have hlocks := B.notSynchronized
  have hS : va_S (mt_A E) s.heap s.heap [] := va_S.rf
  have hl := lv_entry ([.ref (E.2.1 0), .int a1]) (n := 3) (Nat.le_of_ble_eq_true rfl)
  rw [lg_entry_eq]
  generalize (lg_sl ([.ref (E.2.1 0), .int a1]) ++ List.replicate (3 - (lg_sl ([.ref (E.2.1 0), .int a1])).length) Slot.unset).toArray = ls at hl ⊢
  have hl : lv_has ls 3 [(0, .ref (E.2.1 0)), (1, .int a1)] := hl
  unfold f_X11_skew at hf
  have kw0 := hts (.fieldLink RX11 39 "MilkTwice" "house" "LMilkTwice$House;") (List.mem_of_getElem? (i := 1) rfl)
  have hinX11 : ∀ w ∈ u_ws RX11 TX11 10, w ∈ wsX11_skew := fun w h => List.mem_cons_of_mem _ (List.mem_append_left _ (List.mem_append_left _ (List.mem_append_right _ h)))
  refine lv_iload_n hx hb dX11_skew_0 rfl (lv_at hl 1 rfl) ?_
  refine lv_bipush (v := (-9)) hx hb dX11_skew_1 (by decide) ?_
  refine lv_bipush (v := 9) hx hb dX11_skew_3 (by decide) ?_
  refine mt_b1I hf (fun r2 hg1 hf => ?_)
  refine mt_goi (mt_runS (As := [.int a1, .int (-9 : Int32), .int (9 : Int32)]) (rest := []) ⟨hx, hb, hml, hown, hts⟩ hI hH (c_X11_outside l E a1 (-9 : Int32) (9 : Int32) M u _ hg1) (va_cwS 3 hts gX11_skew_X11_outside rfl rfl rfl (by decide +kernel) ⟨Nat.le_of_ble_eq_true rfl, Nat.le_of_ble_eq_true rfl⟩) rfl hl.1 rfl (Nat.le_of_ble_eq_true rfl) dX11_skew_5 ⟨Nat.zero_le _, Nat.zero_le _⟩) hS (fun H locs hH hS => ?_)
  refine lv_istore_n (lv' := [(2, .int r2), (0, .ref (E.2.1 0)), (1, .int a1)]) hx hb dX11_skew_8 rfl hl (by decide) rfl (fun ls hl => ?_)
  refine lv_iload_n hx hb dX11_skew_9 rfl (lv_at hl 0 rfl) ?_
  refine lv_if_eq (tgt := 21) hx hb dX11_skew_10 (by decide) (fun c3 => ?_) (fun c3 => ?_)
  · have hf := mt_ifT c3 hf
    refine lv_aload_n hx hb dX11_skew_21 rfl (lv_at hl 1 rfl) ?_
    refine mt_getr (C := RX11) (T := TX11) (N := 10) hx hb hts hinX11 hown hI hH mt_T0 rfl 0 (by decide) kw0 rfl rfl dX11_skew_22 ?_
    refine lv_iconst (v := 0) hx hb dX11_skew_25 (by decide) ?_
    refine mt_b1I hf (fun r5 hg4 hf => ?_)
    refine mt_goi (mt_runV (i := 10) (As := [.int (0 : Int32)]) (rest := []) ⟨hx, hb, hml, hown, hts⟩ hI hH (c_X4_laterWants l E 10 (by decide) (0 : Int32) M u _ hg4) (cwV 1 hts gX11_skew_X4_laterWants rfl rfl rfl (by decide +kernel) ⟨Nat.le_of_ble_eq_true rfl, Nat.le_of_ble_eq_true rfl⟩) mt_T10 rfl rfl hl.1 rfl (Nat.le_of_ble_eq_true rfl) dX11_skew_26 ⟨Nat.zero_le _, Nat.zero_le _⟩) hS (fun H locs hH hS => ?_)
    refine lv_aload_n hx hb dX11_skew_29 rfl (lv_at hl 1 rfl) ?_
    refine mt_getr (C := RX11) (T := TX11) (N := 10) hx hb hts hinX11 hown hI hH mt_T0 rfl 0 (by decide) kw0 rfl rfl dX11_skew_30 ?_
    refine lv_iload_n hx hb dX11_skew_33 rfl (lv_at hl 2 rfl) ?_
    refine mt_b1I hf (fun r7 hg6 hf => ?_)
    refine mt_goi (mt_runV (i := 10) (As := [.int a1]) (rest := [.int r5]) ⟨hx, hb, hml, hown, hts⟩ hI hH (c_X4_laterWants l E 10 (by decide) a1 M u _ hg6) (cwV 1 hts gX11_skew_X4_laterWants rfl rfl rfl (by decide +kernel) ⟨Nat.le_of_ble_eq_true rfl, Nat.le_of_ble_eq_true rfl⟩) mt_T10 rfl rfl hl.1 rfl (Nat.le_of_ble_eq_true rfl) dX11_skew_34 ⟨Nat.zero_le _, Nat.zero_le _⟩) hS (fun H locs hH hS => ?_)
    refine lv_ixor hx hb dX11_skew_37 ?_
    obtain ⟨i1, i2⟩ := mt_so2 hf
    subst i1
    subst i2
    exact mt_iret hx hb hr hI hH hS hlocks dX11_skew_38
  · have hf := mt_ifF c3 hf
    refine lv_aload_n hx hb dX11_skew_13 rfl (lv_at hl 1 rfl) ?_
    refine lv_iload_n hx hb dX11_skew_14 rfl (lv_at hl 0 rfl) ?_
    refine mt_b2I hf (fun r9 M10 hg8 hf => ?_)
    refine mt_goi (mt_runV (i := 0) (As := [.int r2]) (rest := []) ⟨hx, hb, hml, hown, hts⟩ hI hH (c_X11_refuse l E r2 M u _ _ hg8) (cwV 1 hts gX11_skew_X11_refuse rfl rfl rfl (by decide +kernel) ⟨Nat.le_of_ble_eq_true rfl, Nat.le_of_ble_eq_true rfl⟩) mt_T0 rfl rfl hl.1 rfl (Nat.le_of_ble_eq_true rfl) dX11_skew_15 ⟨Nat.zero_le _, Nat.zero_le _⟩) hS (fun H locs hH hS => ?_)
    refine lv_goto (tgt := 38) hx hb dX11_skew_18 (by decide) ?_
    obtain ⟨i1, i2⟩ := mt_so2 hf
    subst i1
    subst i2
    exact mt_iret hx hb hr hI hH hS hlocks dX11_skew_38
set_option maxHeartbeats 4000000 in
set_option maxRecDepth 100000 in
theorem c_X11_close (l : Launch) (E : mt_E) (a1 : Int32) (M : mt_M) (u : mt_U) (r : Int32) (M' : mt_M) (hf : f_X11_close a1 M = some (r, M')) : Met l yX11_close wsX11_close ({ frames := 2, cells := 0, slots := 0, locals := 44 } : Room) (mt_P E [.ref (E.2.1 0), .int a1] M u) (mt_Qi E r M' u) 0 0 (mt_A E) := by
  refine Met.ofW (cc := cX11_close) (maxL := 3) (ret := (some .int)) (by decide) rfl ?_
  intro p e s mid args below meth c0 s₁ B hml hv
  obtain ⟨rfl, hI, hH⟩ := hv
  have hx := B.exec
  have hb := B.bytes
  have hr := B.returns
  have hts := atoms_spec (ws := wsX11_close) B.pre
  have hown : s.vm.findClass RX11 = some mid.cls := findClass_of_methodNamed B.named
  have hlocks := B.notSynchronized
  have hS : va_S (mt_A E) s.heap s.heap [] := va_S.rf
  have hl := lv_entry ([.ref (E.2.1 0), .int a1]) (n := 3) (Nat.le_of_ble_eq_true rfl)
  rw [lg_entry_eq]
  generalize (lg_sl ([.ref (E.2.1 0), .int a1]) ++ List.replicate (3 - (lg_sl ([.ref (E.2.1 0), .int a1])).length) Slot.unset).toArray = ls at hl ⊢
  have hl : lv_has ls 3 [(0, .ref (E.2.1 0)), (1, .int a1)] := hl
  unfold f_X11_close at hf
  have kw0 := hts (.fieldLink RX11 39 "MilkTwice" "house" "LMilkTwice$House;") (List.mem_of_getElem? (i := 1) rfl)
  have hinX11 : ∀ w ∈ u_ws RX11 TX11 10, w ∈ wsX11_close := fun w h => List.mem_cons_of_mem _ (List.mem_append_left _ (List.mem_append_left _ (List.mem_append_right _ h)))
  refine lv_iload_n hx hb dX11_close_0 rfl (lv_at hl 1 rfl) ?_
  refine lv_iconst (v := 0) hx hb dX11_close_1 (by decide) ?_
  refine lv_bipush (v := 9) hx hb dX11_close_2 (by decide) ?_
  refine mt_b1I hf (fun r2 hg1 hf => ?_)
  refine mt_goi (mt_runS (As := [.int a1, .int (0 : Int32), .int (9 : Int32)]) (rest := []) ⟨hx, hb, hml, hown, hts⟩ hI hH (c_X11_outside l E a1 (0 : Int32) (9 : Int32) M u _ hg1) (va_cwS 3 hts gX11_close_X11_outside rfl rfl rfl (by decide +kernel) ⟨Nat.le_of_ble_eq_true rfl, Nat.le_of_ble_eq_true rfl⟩) rfl hl.1 rfl (Nat.le_of_ble_eq_true rfl) dX11_close_4 ⟨Nat.zero_le _, Nat.zero_le _⟩) hS (fun H locs hH hS => ?_)
  refine lv_istore_n (lv' := [(2, .int r2), (0, .ref (E.2.1 0)), (1, .int a1)]) hx hb dX11_close_7 rfl hl (by decide) rfl (fun ls hl => ?_)
  refine lv_iload_n hx hb dX11_close_8 rfl (lv_at hl 0 rfl) ?_
  refine lv_if_eq (tgt := 20) hx hb dX11_close_9 (by decide) (fun c3 => ?_) (fun c3 => ?_)
  · have hf := mt_ifT c3 hf
    refine lv_aload_n hx hb dX11_close_20 rfl (lv_at hl 1 rfl) ?_
    refine mt_getr (C := RX11) (T := TX11) (N := 10) hx hb hts hinX11 hown hI hH mt_T0 rfl 0 (by decide) kw0 rfl rfl dX11_close_21 ?_
    refine lv_iload_n hx hb dX11_close_24 rfl (lv_at hl 2 rfl) ?_
    refine mt_b1I hf (fun r5 hg4 hf => ?_)
    refine mt_goi (mt_runV (i := 10) (As := [.int a1]) (rest := []) ⟨hx, hb, hml, hown, hts⟩ hI hH (c_X4_closeTogether l E 10 (by decide) a1 M u _ hg4) (cwV 1 hts gX11_close_X4_closeTogether rfl rfl rfl (by decide +kernel) ⟨Nat.le_of_ble_eq_true rfl, Nat.le_of_ble_eq_true rfl⟩) mt_T10 rfl rfl hl.1 rfl (Nat.le_of_ble_eq_true rfl) dX11_close_25 ⟨Nat.zero_le _, Nat.zero_le _⟩) hS (fun H locs hH hS => ?_)
    refine lv_aload_n hx hb dX11_close_28 rfl (lv_at hl 1 rfl) ?_
    refine mt_getr (C := RX11) (T := TX11) (N := 10) hx hb hts hinX11 hown hI hH mt_T0 rfl 0 (by decide) kw0 rfl rfl dX11_close_29 ?_
    refine mt_b1I hf (fun r7 hg6 hf => ?_)
    refine mt_goi (mt_runV (i := 10) (As := []) (rest := [.int r5]) ⟨hx, hb, hml, hown, hts⟩ hI hH (c_X4_neverMarked l E 10 (by decide) M u _ hg6) (cwV 0 hts gX11_close_X4_neverMarked rfl rfl rfl (by decide +kernel) ⟨Nat.le_of_ble_eq_true rfl, Nat.le_of_ble_eq_true rfl⟩) mt_T10 rfl rfl hl.1 rfl (Nat.le_of_ble_eq_true rfl) dX11_close_32 ⟨Nat.zero_le _, Nat.zero_le _⟩) hS (fun H locs hH hS => ?_)
    refine lv_iconst (v := (-1)) hx hb dX11_close_35 (by decide) ?_
    refine lv_ixor hx hb dX11_close_36 ?_
    refine lv_iand hx hb dX11_close_37 ?_
    obtain ⟨i1, i2⟩ := mt_so2 hf
    subst i1
    subst i2
    exact mt_iret hx hb hr hI hH hS hlocks dX11_close_38
  · have hf := mt_ifF c3 hf
    refine lv_aload_n hx hb dX11_close_12 rfl (lv_at hl 1 rfl) ?_
    refine lv_iload_n hx hb dX11_close_13 rfl (lv_at hl 0 rfl) ?_
    refine mt_b2I hf (fun r9 M10 hg8 hf => ?_)
    refine mt_goi (mt_runV (i := 0) (As := [.int r2]) (rest := []) ⟨hx, hb, hml, hown, hts⟩ hI hH (c_X11_refuse l E r2 M u _ _ hg8) (cwV 1 hts gX11_close_X11_refuse rfl rfl rfl (by decide +kernel) ⟨Nat.le_of_ble_eq_true rfl, Nat.le_of_ble_eq_true rfl⟩) mt_T0 rfl rfl hl.1 rfl (Nat.le_of_ble_eq_true rfl) dX11_close_14 ⟨Nat.zero_le _, Nat.zero_le _⟩) hS (fun H locs hH hS => ?_)
    refine lv_goto (tgt := 38) hx hb dX11_close_17 (by decide) ?_
    obtain ⟨i1, i2⟩ := mt_so2 hf
    subst i1
    subst i2
    exact mt_iret hx hb hr hI hH hS hlocks dX11_close_38
set_option maxHeartbeats 4000000 in
set_option maxRecDepth 100000 in
theorem c_X11_stockIn (l : Launch) (E : mt_E) (a1 : Int32) (a2 : Int32) (M : mt_M) (u : mt_U) (r : Int32) (M' : mt_M) (hf : f_X11_stockIn a1 a2 M = some (r, M')) : Met l yX11_stockIn wsX11_stockIn ({ frames := 5, cells := 0, slots := 0, locals := 113 } : Room) (mt_P E [.ref (E.2.1 0), .int a1, .int a2] M u) (mt_Qi E r M' u) 0 0 (mt_A E) := by
  refine Met.ofW (cc := cX11_stockIn) (maxL := 4) (ret := (some .int)) (by decide) rfl ?_
  intro p e s mid args below meth c0 s₁ B hml hv
  obtain ⟨rfl, hI, hH⟩ := hv
  have hx := B.exec
  have hb := B.bytes
  have hr := B.returns
  have hts := atoms_spec (ws := wsX11_stockIn) B.pre
  have hown : s.vm.findClass RX11 = some mid.cls := findClass_of_methodNamed B.named
  have hlocks := B.notSynchronized
  have hS : va_S (mt_A E) s.heap s.heap [] := va_S.rf
  have hl := lv_entry ([.ref (E.2.1 0), .int a1, .int a2]) (n := 4) (Nat.le_of_ble_eq_true rfl)
  rw [lg_entry_eq]
  generalize (lg_sl ([.ref (E.2.1 0), .int a1, .int a2]) ++ List.replicate (4 - (lg_sl ([.ref (E.2.1 0), .int a1, .int a2])).length) Slot.unset).toArray = ls at hl ⊢
  have hl : lv_has ls 4 [(0, .ref (E.2.1 0)), (1, .int a1), (2, .int a2)] := hl
  unfold f_X11_stockIn at hf
  have kw0 := hts (.fieldLink RX11 61 "MilkTwice" "mind" "LMilkTwice$Mind;") (List.mem_of_getElem? (i := 1) rfl)
  have hinX11 : ∀ w ∈ u_ws RX11 TX11 10, w ∈ wsX11_stockIn := fun w h => List.mem_cons_of_mem _ (List.mem_append_left _ (List.mem_append_left _ (List.mem_append_left _ (List.mem_append_right _ h))))
  refine lv_aload_n hx hb dX11_stockIn_0 rfl (lv_at hl 0 rfl) ?_
  refine lv_iload_n hx hb dX11_stockIn_1 rfl (lv_at hl 1 rfl) ?_
  refine lv_iload_n hx hb dX11_stockIn_2 rfl (lv_at hl 2 rfl) ?_
  refine lv_iconst (v := 0) hx hb dX11_stockIn_3 (by decide) ?_
  refine lv_bipush (v := 60) hx hb dX11_stockIn_4 (by decide) ?_
  refine mt_b1I hf (fun r2 hg1 hf => ?_)
  refine mt_goi (mt_runV (i := 0) (As := [.int a1, .int a2, .int (0 : Int32), .int (60 : Int32)]) (rest := []) ⟨hx, hb, hml, hown, hts⟩ hI hH (c_X11_refusalOf l E a1 a2 (0 : Int32) (60 : Int32) M u _ hg1) (cwV 4 hts gX11_stockIn_X11_refusalOf rfl rfl rfl (by decide +kernel) ⟨Nat.le_of_ble_eq_true rfl, Nat.le_of_ble_eq_true rfl⟩) mt_T0 rfl rfl hl.1 rfl (Nat.le_of_ble_eq_true rfl) dX11_stockIn_6 ⟨Nat.zero_le _, Nat.zero_le _⟩) hS (fun H locs hH hS => ?_)
  refine lv_istore_n (lv' := [(3, .int r2), (0, .ref (E.2.1 0)), (1, .int a1), (2, .int a2)]) hx hb dX11_stockIn_9 rfl hl (by decide) rfl (fun ls hl => ?_)
  refine lv_iload_n hx hb dX11_stockIn_10 rfl (lv_at hl 0 rfl) ?_
  refine lv_if_eq (tgt := 22) hx hb dX11_stockIn_11 (by decide) (fun c3 => ?_) (fun c3 => ?_)
  · have hf := mt_ifT c3 hf
    refine lv_aload_n hx hb dX11_stockIn_22 rfl (lv_at hl 1 rfl) ?_
    refine mt_getr (C := RX11) (T := TX11) (N := 10) hx hb hts hinX11 hown hI hH mt_T0 rfl 5 (by decide) kw0 rfl rfl dX11_stockIn_23 ?_
    refine lv_iload_n hx hb dX11_stockIn_26 rfl (lv_at hl 2 rfl) ?_
    refine lv_iload_n hx hb dX11_stockIn_27 rfl (lv_at hl 3 rfl) ?_
    refine mt_b2I hf (fun r5 M6 hg4 hf => ?_)
    refine mt_goi (mt_runV (i := 133) (As := [.int a1, .int a2]) (rest := []) ⟨hx, hb, hml, hown, hts⟩ hI hH (c_X8_stockBehind l E a1 a2 M u _ _ hg4) (cwV 2 hts gX11_stockIn_X8_stockBehind rfl rfl rfl (by decide +kernel) ⟨Nat.le_of_ble_eq_true rfl, Nat.le_of_ble_eq_true rfl⟩) mt_T133 rfl rfl hl.1 rfl (Nat.le_of_ble_eq_true rfl) dX11_stockIn_28 ⟨Nat.zero_le _, Nat.zero_le _⟩) hS (fun H locs hH hS => ?_)
    obtain ⟨i1, i2⟩ := mt_so2 hf
    subst i1
    subst i2
    exact mt_iret hx hb hr hI hH hS hlocks dX11_stockIn_31
  · have hf := mt_ifF c3 hf
    refine lv_aload_n hx hb dX11_stockIn_14 rfl (lv_at hl 1 rfl) ?_
    refine lv_iload_n hx hb dX11_stockIn_15 rfl (lv_at hl 0 rfl) ?_
    refine mt_b2I hf (fun r8 M9 hg7 hf => ?_)
    refine mt_goi (mt_runV (i := 0) (As := [.int r2]) (rest := []) ⟨hx, hb, hml, hown, hts⟩ hI hH (c_X11_refuse l E r2 M u _ _ hg7) (cwV 1 hts gX11_stockIn_X11_refuse rfl rfl rfl (by decide +kernel) ⟨Nat.le_of_ble_eq_true rfl, Nat.le_of_ble_eq_true rfl⟩) mt_T0 rfl rfl hl.1 rfl (Nat.le_of_ble_eq_true rfl) dX11_stockIn_16 ⟨Nat.zero_le _, Nat.zero_le _⟩) hS (fun H locs hH hS => ?_)
    refine lv_goto (tgt := 31) hx hb dX11_stockIn_19 (by decide) ?_
    obtain ⟨i1, i2⟩ := mt_so2 hf
    subst i1
    subst i2
    exact mt_iret hx hb hr hI hH hS hlocks dX11_stockIn_31
set_option maxHeartbeats 4000000 in
set_option maxRecDepth 100000 in
theorem c_X11_lacking (l : Launch) (E : mt_E) (a1 : Int32) (a2 : Int32) (M : mt_M) (u : mt_U) (r : Int32) (M' : mt_M) (hf : f_X11_lacking a1 a2 M = some (r, M')) : Met l yX11_lacking wsX11_lacking ({ frames := 5, cells := 0, slots := 0, locals := 111 } : Room) (mt_P E [.ref (E.2.1 0), .int a1, .int a2] M u) (mt_Qi E r M' u) 0 0 (mt_A E) := by
  refine Met.ofW (cc := cX11_lacking) (maxL := 4) (ret := (some .int)) (by decide) rfl ?_
  intro p e s mid args below meth c0 s₁ B hml hv
  obtain ⟨rfl, hI, hH⟩ := hv
  have hx := B.exec
  have hb := B.bytes
  have hr := B.returns
  have hts := atoms_spec (ws := wsX11_lacking) B.pre
  have hown : s.vm.findClass RX11 = some mid.cls := findClass_of_methodNamed B.named
  have hlocks := B.notSynchronized
  have hS : va_S (mt_A E) s.heap s.heap [] := va_S.rf
  have hl := lv_entry ([.ref (E.2.1 0), .int a1, .int a2]) (n := 4) (Nat.le_of_ble_eq_true rfl)
  rw [lg_entry_eq]
  generalize (lg_sl ([.ref (E.2.1 0), .int a1, .int a2]) ++ List.replicate (4 - (lg_sl ([.ref (E.2.1 0), .int a1, .int a2])).length) Slot.unset).toArray = ls at hl ⊢
  have hl : lv_has ls 4 [(0, .ref (E.2.1 0)), (1, .int a1), (2, .int a2)] := hl
  unfold f_X11_lacking at hf
  have kw0 := hts (.fieldLink RX11 61 "MilkTwice" "mind" "LMilkTwice$Mind;") (List.mem_of_getElem? (i := 1) rfl)
  have hinX11 : ∀ w ∈ u_ws RX11 TX11 10, w ∈ wsX11_lacking := fun w h => List.mem_cons_of_mem _ (List.mem_append_left _ (List.mem_append_left _ (List.mem_append_left _ (List.mem_append_right _ h))))
  refine lv_iload_n hx hb dX11_lacking_0 rfl (lv_at hl 1 rfl) ?_
  refine lv_iconst (v := 0) hx hb dX11_lacking_1 (by decide) ?_
  refine lv_bipush (v := 60) hx hb dX11_lacking_2 (by decide) ?_
  refine mt_b1I hf (fun r2 hg1 hf => ?_)
  refine mt_goi (mt_runS (As := [.int a1, .int (0 : Int32), .int (60 : Int32)]) (rest := []) ⟨hx, hb, hml, hown, hts⟩ hI hH (c_X11_outside l E a1 (0 : Int32) (60 : Int32) M u _ hg1) (va_cwS 3 hts gX11_lacking_X11_outside rfl rfl rfl (by decide +kernel) ⟨Nat.le_of_ble_eq_true rfl, Nat.le_of_ble_eq_true rfl⟩) rfl hl.1 rfl (Nat.le_of_ble_eq_true rfl) dX11_lacking_4 ⟨Nat.zero_le _, Nat.zero_le _⟩) hS (fun H locs hH hS => ?_)
  refine lv_iload_n hx hb dX11_lacking_7 rfl (lv_at hl 2 rfl) ?_
  refine lv_iconst (v := 1) hx hb dX11_lacking_8 (by decide) ?_
  refine mt_b1I hf (fun r4 hg3 hf => ?_)
  refine mt_goi (mt_runS (As := [.int a2, .int (1 : Int32)]) (rest := [.int r2]) ⟨hx, hb, hml, hown, hts⟩ hI hH (c_X11_isOneOf l E a2 (1 : Int32) M u _ hg3) (va_cwS 2 hts gX11_lacking_X11_isOneOf rfl rfl rfl (by decide +kernel) ⟨Nat.le_of_ble_eq_true rfl, Nat.le_of_ble_eq_true rfl⟩) rfl hl.1 rfl (Nat.le_of_ble_eq_true rfl) dX11_lacking_9 ⟨Nat.zero_le _, Nat.zero_le _⟩) hS (fun H locs hH hS => ?_)
  refine lv_bipush (v := (-2)) hx hb dX11_lacking_12 (by decide) ?_
  refine mt_b1I hf (fun r6 hg5 hf => ?_)
  refine mt_goi (mt_runS (As := [.int r2, .int r4, .int (-2 : Int32)]) (rest := []) ⟨hx, hb, hml, hown, hts⟩ hI hH (c_X11_firstOf l E r2 r4 (-2 : Int32) M u _ hg5) (va_cwS 3 hts gX11_lacking_X11_firstOf rfl rfl rfl (by decide +kernel) ⟨Nat.le_of_ble_eq_true rfl, Nat.le_of_ble_eq_true rfl⟩) rfl hl.1 rfl (Nat.le_of_ble_eq_true rfl) dX11_lacking_14 ⟨Nat.zero_le _, Nat.zero_le _⟩) hS (fun H locs hH hS => ?_)
  refine lv_istore_n (lv' := [(3, .int r6), (0, .ref (E.2.1 0)), (1, .int a1), (2, .int a2)]) hx hb dX11_lacking_17 rfl hl (by decide) rfl (fun ls hl => ?_)
  refine lv_iload_n hx hb dX11_lacking_18 rfl (lv_at hl 0 rfl) ?_
  refine lv_if_eq (tgt := 28) hx hb dX11_lacking_19 (by decide) (fun c7 => ?_) (fun c7 => ?_)
  · have hf := mt_ifT c7 hf
    refine lv_iload_n hx hb dX11_lacking_28 rfl (lv_at hl 3 rfl) ?_
    refine lv_if_ne (tgt := 43) hx hb dX11_lacking_29 (by decide) (fun c8 => ?_) (fun c8 => ?_)
    · have hf := mt_ifF c8 hf
      refine lv_aload_n hx hb dX11_lacking_43 rfl (lv_at hl 1 rfl) ?_
      refine mt_getr (C := RX11) (T := TX11) (N := 10) hx hb hts hinX11 hown hI hH mt_T0 rfl 5 (by decide) kw0 rfl rfl dX11_lacking_44 ?_
      refine lv_iload_n hx hb dX11_lacking_47 rfl (lv_at hl 2 rfl) ?_
      refine mt_b2I hf (fun r10 M11 hg9 hf => ?_)
      refine mt_goi (mt_runV (i := 133) (As := [.int a1]) (rest := []) ⟨hx, hb, hml, hown, hts⟩ hI hH (c_X8_spoiltIn l E a1 M u _ _ hg9) (cwV 1 hts gX11_lacking_X8_spoiltIn rfl rfl rfl (by decide +kernel) ⟨Nat.le_of_ble_eq_true rfl, Nat.le_of_ble_eq_true rfl⟩) mt_T133 rfl rfl hl.1 rfl (Nat.le_of_ble_eq_true rfl) dX11_lacking_48 ⟨Nat.zero_le _, Nat.zero_le _⟩) hS (fun H locs hH hS => ?_)
      obtain ⟨i1, i2⟩ := mt_so2 hf
      subst i1
      subst i2
      exact mt_iret hx hb hr hI hH hS hlocks dX11_lacking_51
    · have hf := mt_ifT c8 hf
      refine lv_aload_n hx hb dX11_lacking_32 rfl (lv_at hl 1 rfl) ?_
      refine mt_getr (C := RX11) (T := TX11) (N := 10) hx hb hts hinX11 hown hI hH mt_T0 rfl 5 (by decide) kw0 rfl rfl dX11_lacking_33 ?_
      refine lv_iload_n hx hb dX11_lacking_36 rfl (lv_at hl 2 rfl) ?_
      refine mt_b2I hf (fun r13 M14 hg12 hf => ?_)
      refine mt_goi (mt_runV (i := 133) (As := [.int a1]) (rest := []) ⟨hx, hb, hml, hown, hts⟩ hI hH (c_X8_lackedIn l E a1 M u _ _ hg12) (cwV 1 hts gX11_lacking_X8_lackedIn rfl rfl rfl (by decide +kernel) ⟨Nat.le_of_ble_eq_true rfl, Nat.le_of_ble_eq_true rfl⟩) mt_T133 rfl rfl hl.1 rfl (Nat.le_of_ble_eq_true rfl) dX11_lacking_37 ⟨Nat.zero_le _, Nat.zero_le _⟩) hS (fun H locs hH hS => ?_)
      refine lv_goto (tgt := 51) hx hb dX11_lacking_40 (by decide) ?_
      obtain ⟨i1, i2⟩ := mt_so2 hf
      subst i1
      subst i2
      exact mt_iret hx hb hr hI hH hS hlocks dX11_lacking_51
  · have hf := mt_ifF c7 hf
    refine lv_aload_n hx hb dX11_lacking_22 rfl (lv_at hl 1 rfl) ?_
    refine lv_iload_n hx hb dX11_lacking_23 rfl (lv_at hl 0 rfl) ?_
    refine mt_b2I hf (fun r16 M17 hg15 hf => ?_)
    refine mt_goi (mt_runV (i := 0) (As := [.int r6]) (rest := []) ⟨hx, hb, hml, hown, hts⟩ hI hH (c_X11_refuse l E r6 M u _ _ hg15) (cwV 1 hts gX11_lacking_X11_refuse rfl rfl rfl (by decide +kernel) ⟨Nat.le_of_ble_eq_true rfl, Nat.le_of_ble_eq_true rfl⟩) mt_T0 rfl rfl hl.1 rfl (Nat.le_of_ble_eq_true rfl) dX11_lacking_24 ⟨Nat.zero_le _, Nat.zero_le _⟩) hS (fun H locs hH hS => ?_)
    obtain ⟨i1, i2⟩ := mt_so2 hf
    subst i1
    subst i2
    exact mt_iret hx hb hr hI hH hS hlocks dX11_lacking_27
set_option maxHeartbeats 4000000 in
set_option maxRecDepth 100000 in
theorem c_X11_runsOut (l : Launch) (E : mt_E) (a1 : Int32) (M : mt_M) (u : mt_U) (r : Int32) (M' : mt_M) (hf : f_X11_runsOut a1 M = some (r, M')) : Met l yX11_runsOut wsX11_runsOut ({ frames := 4, cells := 0, slots := 0, locals := 89 } : Room) (mt_P E [.ref (E.2.1 0), .int a1] M u) (mt_Qi E r M' u) 0 0 (mt_A E) := by
  refine Met.ofW (cc := cX11_runsOut) (maxL := 2) (ret := (some .int)) (by decide) rfl ?_
  intro p e s mid args below meth c0 s₁ B hml hv
  obtain ⟨rfl, hI, hH⟩ := hv
  have hx := B.exec
  have hb := B.bytes
  have hr := B.returns
  have hts := atoms_spec (ws := wsX11_runsOut) B.pre
  have hown : s.vm.findClass RX11 = some mid.cls := findClass_of_methodNamed B.named
  have hlocks := B.notSynchronized
  have hS : va_S (mt_A E) s.heap s.heap [] := va_S.rf
  have hl := lv_entry ([.ref (E.2.1 0), .int a1]) (n := 2) (Nat.le_of_ble_eq_true rfl)
  rw [lg_entry_eq]
  generalize (lg_sl ([.ref (E.2.1 0), .int a1]) ++ List.replicate (2 - (lg_sl ([.ref (E.2.1 0), .int a1])).length) Slot.unset).toArray = ls at hl ⊢
  have hl : lv_has ls 2 [(0, .ref (E.2.1 0)), (1, .int a1)] := hl
  unfold f_X11_runsOut at hf
  have kw0 := hts (.fieldLink RX11 39 "MilkTwice" "house" "LMilkTwice$House;") (List.mem_of_getElem? (i := 1) rfl)
  have kw1 := hts (.fieldLink RX11 61 "MilkTwice" "mind" "LMilkTwice$Mind;") (List.mem_of_getElem? (i := 2) rfl)
  have hinX11 : ∀ w ∈ u_ws RX11 TX11 10, w ∈ wsX11_runsOut := fun w h => List.mem_cons_of_mem _ (List.mem_append_left _ (List.mem_append_left _ (List.mem_append_left _ (List.mem_append_right _ h))))
  have hinX4 : ∀ w ∈ u_ws RX4 TX4 6, w ∈ wsX11_runsOut := fun w h => List.mem_cons_of_mem _ (List.mem_append_left _ (List.mem_append_left _ (List.mem_append_right _ h)))
  refine lv_aload_n hx hb dX11_runsOut_0 rfl (lv_at hl 0 rfl) ?_
  refine mt_getr (C := RX11) (T := TX11) (N := 10) hx hb hts hinX11 hown hI hH mt_T0 rfl 0 (by decide) kw0 rfl rfl dX11_runsOut_1 ?_
  refine mt_getrN (C := RX4) (T := TX4) (N := 6) hx hb hts hinX4 hown hI hH mt_T10 rfl 0 (by decide) (List.mem_of_getElem? (i := 10) rfl) rfl rfl dX11_runsOut_4 ?_
  refine lv_iload_n hx hb dX11_runsOut_7 rfl (lv_at hl 1 rfl) ?_
  refine mt_b1I hf (fun r2 hg1 hf => ?_)
  refine mt_goi (mt_runV (i := 13) (As := [.int a1]) (rest := []) ⟨hx, hb, hml, hown, hts⟩ hI hH (c_X0_has l E 13 (by decide) a1 M u _ hg1) (cwV 1 hts gX11_runsOut_X0_has rfl rfl rfl (by decide +kernel) ⟨Nat.le_of_ble_eq_true rfl, Nat.le_of_ble_eq_true rfl⟩) mt_T13 rfl rfl hl.1 rfl (Nat.le_of_ble_eq_true rfl) dX11_runsOut_8 ⟨Nat.zero_le _, Nat.zero_le _⟩) hS (fun H locs hH hS => ?_)
  refine lv_if_eq (tgt := 25) hx hb dX11_runsOut_11 (by decide) (fun c3 => ?_) (fun c3 => ?_)
  · have hf := mt_ifT c3 hf
    refine lv_aload_n hx hb dX11_runsOut_25 rfl (lv_at hl 0 rfl) ?_
    refine lv_iconst (v := (-1)) hx hb dX11_runsOut_26 (by decide) ?_
    refine mt_b2I hf (fun r5 M6 hg4 hf => ?_)
    refine mt_goi (mt_runV (i := 0) (As := [.int (-1 : Int32)]) (rest := []) ⟨hx, hb, hml, hown, hts⟩ hI hH (c_X11_refuse l E (-1 : Int32) M u _ _ hg4) (cwV 1 hts gX11_runsOut_X11_refuse rfl rfl rfl (by decide +kernel) ⟨Nat.le_of_ble_eq_true rfl, Nat.le_of_ble_eq_true rfl⟩) mt_T0 rfl rfl hl.1 rfl (Nat.le_of_ble_eq_true rfl) dX11_runsOut_27 ⟨Nat.zero_le _, Nat.zero_le _⟩) hS (fun H locs hH hS => ?_)
    obtain ⟨i1, i2⟩ := mt_so2 hf
    subst i1
    subst i2
    exact mt_iret hx hb hr hI hH hS hlocks dX11_runsOut_30
  · have hf := mt_ifF c3 hf
    refine lv_aload_n hx hb dX11_runsOut_14 rfl (lv_at hl 0 rfl) ?_
    refine mt_getr (C := RX11) (T := TX11) (N := 10) hx hb hts hinX11 hown hI hH mt_T0 rfl 5 (by decide) kw1 rfl rfl dX11_runsOut_15 ?_
    refine lv_iload_n hx hb dX11_runsOut_18 rfl (lv_at hl 1 rfl) ?_
    refine mt_b2I hf (fun r8 M9 hg7 hf => ?_)
    refine mt_goi (mt_runV (i := 133) (As := [.int a1]) (rest := []) ⟨hx, hb, hml, hown, hts⟩ hI hH (c_X8_firstDayWithout l E a1 M u _ _ hg7) (cwV 1 hts gX11_runsOut_X8_firstDayWithout rfl rfl rfl (by decide +kernel) ⟨Nat.le_of_ble_eq_true rfl, Nat.le_of_ble_eq_true rfl⟩) mt_T133 rfl rfl hl.1 rfl (Nat.le_of_ble_eq_true rfl) dX11_runsOut_19 ⟨Nat.zero_le _, Nat.zero_le _⟩) hS (fun H locs hH hS => ?_)
    refine lv_goto (tgt := 30) hx hb dX11_runsOut_22 (by decide) ?_
    obtain ⟨i1, i2⟩ := mt_so2 hf
    subst i1
    subst i2
    exact mt_iret hx hb hr hI hH hS hlocks dX11_runsOut_30
set_option maxHeartbeats 4000000 in
set_option maxRecDepth 100000 in
theorem c_X11_firstOut (l : Launch) (E : mt_E)  (M : mt_M) (u : mt_U) (r : Int32) (M' : mt_M) (hf : f_X11_firstOut M = some (r, M')) : Met l yX11_firstOut wsX11_firstOut ({ frames := 5, cells := 0, slots := 0, locals := 113 } : Room) (mt_P E [.ref (E.2.1 0)] M u) (mt_Qi E r M' u) 0 0 (mt_A E) := by
  refine Met.ofW (cc := cX11_firstOut) (maxL := 1) (ret := (some .int)) (by decide) rfl ?_
  intro p e s mid args below meth c0 s₁ B hml hv
  obtain ⟨rfl, hI, hH⟩ := hv
  have hx := B.exec
  have hb := B.bytes
  have hr := B.returns
  have hts := atoms_spec (ws := wsX11_firstOut) B.pre
  have hown : s.vm.findClass RX11 = some mid.cls := findClass_of_methodNamed B.named
  have hlocks := B.notSynchronized
  have hS : va_S (mt_A E) s.heap s.heap [] := va_S.rf
  have hl := lv_entry ([.ref (E.2.1 0)]) (n := 1) (Nat.le_of_ble_eq_true rfl)
  rw [lg_entry_eq]
  generalize (lg_sl ([.ref (E.2.1 0)]) ++ List.replicate (1 - (lg_sl ([.ref (E.2.1 0)])).length) Slot.unset).toArray = ls at hl ⊢
  have hl : lv_has ls 1 [(0, .ref (E.2.1 0))] := hl
  unfold f_X11_firstOut at hf
  have kw0 := hts (.fieldLink RX11 61 "MilkTwice" "mind" "LMilkTwice$Mind;") (List.mem_of_getElem? (i := 1) rfl)
  have hinX11 : ∀ w ∈ u_ws RX11 TX11 10, w ∈ wsX11_firstOut := fun w h => List.mem_cons_of_mem _ (List.mem_append_left _ (List.mem_append_left _ (List.mem_append_left _ (List.mem_append_right _ h))))
  refine lv_aload_n hx hb dX11_firstOut_0 rfl (lv_at hl 0 rfl) ?_
  refine mt_getr (C := RX11) (T := TX11) (N := 10) hx hb hts hinX11 hown hI hH mt_T0 rfl 5 (by decide) kw0 rfl rfl dX11_firstOut_1 ?_
  refine mt_b2I hf (fun r2 M3 hg1 hf => ?_)
  refine mt_goi (mt_runV (i := 133) (As := []) (rest := []) ⟨hx, hb, hml, hown, hts⟩ hI hH (c_X8_firstThingOut l E M u _ _ hg1) (cwV 0 hts gX11_firstOut_X8_firstThingOut rfl rfl rfl (by decide +kernel) ⟨Nat.le_of_ble_eq_true rfl, Nat.le_of_ble_eq_true rfl⟩) mt_T133 rfl rfl hl.1 rfl (Nat.le_of_ble_eq_true rfl) dX11_firstOut_4 ⟨Nat.zero_le _, Nat.zero_le _⟩) hS (fun H locs hH hS => ?_)
  obtain ⟨i1, i2⟩ := mt_so2 hf
  subst i1
  subst i2
  exact mt_iret hx hb hr hI hH hS hlocks dX11_firstOut_7
set_option maxHeartbeats 4000000 in
set_option maxRecDepth 100000 in
theorem c_X11_buyFor (l : Launch) (E : mt_E) (a1 : Int32) (a2 : Int32) (M : mt_M) (u : mt_U) (r : Int32) (M' : mt_M) (hf : f_X11_buyFor a1 a2 M = some (r, M')) : Met l yX11_buyFor wsX11_buyFor ({ frames := 6, cells := 0, slots := 0, locals := 137 } : Room) (mt_P E [.ref (E.2.1 0), .int a1, .int a2] M u) (mt_Qi E r M' u) 0 0 (mt_A E) := by
  refine Met.ofW (cc := cX11_buyFor) (maxL := 5) (ret := (some .int)) (by decide) rfl ?_
  intro p e s mid args below meth c0 s₁ B hml hv
  obtain ⟨rfl, hI, hH⟩ := hv
  have hx := B.exec
  have hb := B.bytes
  have hr := B.returns
  have hts := atoms_spec (ws := wsX11_buyFor) B.pre
  have hown : s.vm.findClass RX11 = some mid.cls := findClass_of_methodNamed B.named
  have hlocks := B.notSynchronized
  have hS : va_S (mt_A E) s.heap s.heap [] := va_S.rf
  have hl := lv_entry ([.ref (E.2.1 0), .int a1, .int a2]) (n := 5) (Nat.le_of_ble_eq_true rfl)
  rw [lg_entry_eq]
  generalize (lg_sl ([.ref (E.2.1 0), .int a1, .int a2]) ++ List.replicate (5 - (lg_sl ([.ref (E.2.1 0), .int a1, .int a2])).length) Slot.unset).toArray = ls at hl ⊢
  have hl : lv_has ls 5 [(0, .ref (E.2.1 0)), (1, .int a1), (2, .int a2)] := hl
  unfold f_X11_buyFor at hf
  have kw0 := hts (.fieldLink RX11 61 "MilkTwice" "mind" "LMilkTwice$Mind;") (List.mem_of_getElem? (i := 1) rfl)
  have hinX11 : ∀ w ∈ u_ws RX11 TX11 10, w ∈ wsX11_buyFor := fun w h => List.mem_cons_of_mem _ (List.mem_append_left _ (List.mem_append_left _ (List.mem_append_left _ (List.mem_append_right _ h))))
  refine lv_iload_n hx hb dX11_buyFor_0 rfl (lv_at hl 1 rfl) ?_
  refine lv_iconst (v := (-1)) hx hb dX11_buyFor_1 (by decide) ?_
  refine mt_jn1 hf (fun (v1 : Int32) => ∀ (H : Heap) (locs : List Loc) (ls : Array Slot), mt_H E M u H → va_S (mt_A E) s.heap H locs → lv_has ls 5 [(0, .ref (E.2.1 0)), (1, .int a1), (2, .int a2)] → W p l e (headSpec wsX11_buyFor ({ frames := 6, cells := 0, slots := 0, locals := 137 } : Room)).room s mid (([.ref (E.2.1 0), .int a1, .int a2] : List Value).toArray) below meth c0 H locs 0 0 (MQ below (mt_Qi E r M' u) (([.ref (E.2.1 0), .int a1, .int a2] : List Value).toArray) s 0 0 (mt_A E)) (F0 mid 10 ls [.int v1])) ?_ ?_
  · intro v1 hf H locs ls hH hS hl
    refine lv_istore_n (lv' := [(3, .int v1), (0, .ref (E.2.1 0)), (1, .int a1), (2, .int a2)]) hx hb dX11_buyFor_10 rfl hl (by decide) rfl (fun ls hl => ?_)
    refine lv_iload_n hx hb dX11_buyFor_11 rfl (lv_at hl 0 rfl) ?_
    refine mt_jn1 hf (fun (v4 : Int32) => ∀ (H : Heap) (locs : List Loc) (ls : Array Slot), mt_H E M u H → va_S (mt_A E) s.heap H locs → lv_has ls 5 [(0, .ref (E.2.1 0)), (1, .int a1), (2, .int a2), (3, .int v1)] → W p l e (headSpec wsX11_buyFor ({ frames := 6, cells := 0, slots := 0, locals := 137 } : Room)).room s mid (([.ref (E.2.1 0), .int a1, .int a2] : List Value).toArray) below meth c0 H locs 0 0 (MQ below (mt_Qi E r M' u) (([.ref (E.2.1 0), .int a1, .int a2] : List Value).toArray) s 0 0 (mt_A E)) (F0 mid 34 ls [.int v4])) ?_ ?_
    · intro v4 hf H locs ls hH hS hl
      refine lv_istore (lv' := [(4, .int v4), (0, .ref (E.2.1 0)), (1, .int a1), (2, .int a2), (3, .int v1)]) hx hb dX11_buyFor_34 hl (by decide) rfl (fun ls hl => ?_)
      refine lv_iload hx hb dX11_buyFor_36 (lv_at hl 0 rfl) ?_
      refine lv_if_eq (tgt := 48) hx hb dX11_buyFor_38 (by decide) (fun c7 => ?_) (fun c7 => ?_)
      · have hf := mt_ifT c7 hf
        refine lv_iload_n hx hb dX11_buyFor_48 rfl (lv_at hl 4 rfl) ?_
        refine lv_if_ne (tgt := 62) hx hb dX11_buyFor_49 (by decide) (fun c8 => ?_) (fun c8 => ?_)
        · have hf := mt_ifF c8 hf
          refine lv_aload_n hx hb dX11_buyFor_62 rfl (lv_at hl 1 rfl) ?_
          refine mt_getr (C := RX11) (T := TX11) (N := 10) hx hb hts hinX11 hown hI hH mt_T0 rfl 5 (by decide) kw0 rfl rfl dX11_buyFor_63 ?_
          refine lv_iload_n hx hb dX11_buyFor_66 rfl (lv_at hl 3 rfl) ?_
          refine mt_b1I hf (fun M10 hg9 hf => ?_)
          refine mt_gov (mt_runV (i := 133) (As := [.int a2]) (rest := []) ⟨hx, hb, hml, hown, hts⟩ hI hH (c_X8_noteCosts l E a2 M u _ hg9) (cwV 1 hts gX11_buyFor_X8_noteCosts rfl rfl rfl (by decide +kernel) ⟨Nat.le_of_ble_eq_true rfl, Nat.le_of_ble_eq_true rfl⟩) mt_T133 rfl rfl hl.1 rfl (Nat.le_of_ble_eq_true rfl) dX11_buyFor_67 ⟨Nat.zero_le _, Nat.zero_le _⟩) hS (fun H locs hH hS => ?_)
          refine lv_aload_n hx hb dX11_buyFor_70 rfl (lv_at hl 1 rfl) ?_
          refine mt_getr (C := RX11) (T := TX11) (N := 10) hx hb hts hinX11 hown hI hH mt_T0 rfl 5 (by decide) kw0 rfl rfl dX11_buyFor_71 ?_
          refine mt_b1I hf (fun r12 hg11 hf => ?_)
          refine mt_goi (mt_runV (i := 133) (As := []) (rest := []) ⟨hx, hb, hml, hown, hts⟩ hI hH (c_X8_penceForAll l E M10 u _ hg11) (cwV 0 hts gX11_buyFor_X8_penceForAll rfl rfl rfl (by decide +kernel) ⟨Nat.le_of_ble_eq_true rfl, Nat.le_of_ble_eq_true rfl⟩) mt_T133 rfl rfl hl.1 rfl (Nat.le_of_ble_eq_true rfl) dX11_buyFor_74 ⟨Nat.zero_le _, Nat.zero_le _⟩) hS (fun H locs hH hS => ?_)
          obtain ⟨i1, i2⟩ := mt_so2 hf
          subst i1
          subst i2
          exact mt_iret hx hb hr hI hH hS hlocks dX11_buyFor_77
        · have hf := mt_ifT c8 hf
          refine lv_aload_n hx hb dX11_buyFor_52 rfl (lv_at hl 1 rfl) ?_
          refine mt_getr (C := RX11) (T := TX11) (N := 10) hx hb hts hinX11 hown hI hH mt_T0 rfl 5 (by decide) kw0 rfl rfl dX11_buyFor_53 ?_
          refine lv_iload_n hx hb dX11_buyFor_56 rfl (lv_at hl 2 rfl) ?_
          refine lv_iload_n hx hb dX11_buyFor_57 rfl (lv_at hl 3 rfl) ?_
          refine mt_b2I hf (fun r14 M15 hg13 hf => ?_)
          refine mt_goi (mt_runV (i := 133) (As := [.int a1, .int a2]) (rest := []) ⟨hx, hb, hml, hown, hts⟩ hI hH (c_X8_packsFor l E a1 a2 M u _ _ hg13) (cwV 2 hts gX11_buyFor_X8_packsFor rfl rfl rfl (by decide +kernel) ⟨Nat.le_of_ble_eq_true rfl, Nat.le_of_ble_eq_true rfl⟩) mt_T133 rfl rfl hl.1 rfl (Nat.le_of_ble_eq_true rfl) dX11_buyFor_58 ⟨Nat.zero_le _, Nat.zero_le _⟩) hS (fun H locs hH hS => ?_)
          obtain ⟨i1, i2⟩ := mt_so2 hf
          subst i1
          subst i2
          exact mt_iret hx hb hr hI hH hS hlocks dX11_buyFor_61
      · have hf := mt_ifF c7 hf
        refine lv_aload_n hx hb dX11_buyFor_41 rfl (lv_at hl 1 rfl) ?_
        refine lv_iload hx hb dX11_buyFor_42 (lv_at hl 0 rfl) ?_
        refine mt_b2I hf (fun r17 M18 hg16 hf => ?_)
        refine mt_goi (mt_runV (i := 0) (As := [.int v4]) (rest := []) ⟨hx, hb, hml, hown, hts⟩ hI hH (c_X11_refuse l E v4 M u _ _ hg16) (cwV 1 hts gX11_buyFor_X11_refuse rfl rfl rfl (by decide +kernel) ⟨Nat.le_of_ble_eq_true rfl, Nat.le_of_ble_eq_true rfl⟩) mt_T0 rfl rfl hl.1 rfl (Nat.le_of_ble_eq_true rfl) dX11_buyFor_44 ⟨Nat.zero_le _, Nat.zero_le _⟩) hS (fun H locs hH hS => ?_)
        obtain ⟨i1, i2⟩ := mt_so2 hf
        subst i1
        subst i2
        exact mt_iret hx hb hr hI hH hS hlocks dX11_buyFor_47
    · intro j5 hj6 hf
      refine lv_if_eq (tgt := 25) hx hb dX11_buyFor_12 (by decide) (fun c19 => ?_) (fun c19 => ?_)
      · have hf := mt_ifT c19 hf
        refine lv_aload_n hx hb dX11_buyFor_25 rfl (lv_at hl 1 rfl) ?_
        refine lv_iload_n hx hb dX11_buyFor_26 rfl (lv_at hl 2 rfl) ?_
        refine lv_iload_n hx hb dX11_buyFor_27 rfl (lv_at hl 3 rfl) ?_
        refine lv_iconst (v := 1) hx hb dX11_buyFor_28 (by decide) ?_
        refine lv_bipush (v := 30) hx hb dX11_buyFor_29 (by decide) ?_
        refine mt_b1I hf (fun r21 hg20 hf => ?_)
        refine mt_goi (mt_runV (i := 0) (As := [.int a1, .int a2, .int (1 : Int32), .int (30 : Int32)]) (rest := []) ⟨hx, hb, hml, hown, hts⟩ hI hH (c_X11_refusalOf l E a1 a2 (1 : Int32) (30 : Int32) M u _ hg20) (cwV 4 hts gX11_buyFor_X11_refusalOf rfl rfl rfl (by decide +kernel) ⟨Nat.le_of_ble_eq_true rfl, Nat.le_of_ble_eq_true rfl⟩) mt_T0 rfl rfl hl.1 rfl (Nat.le_of_ble_eq_true rfl) dX11_buyFor_31 ⟨Nat.zero_le _, Nat.zero_le _⟩) hS (fun H locs hH hS => ?_)
        exact hj6 r21 hf _ _ _ hH hS (lv_sub hl [1, 2, 3, 0] rfl)
      · have hf := mt_ifF c19 hf
        refine lv_iload_n hx hb dX11_buyFor_15 rfl (lv_at hl 3 rfl) ?_
        refine lv_iconst (v := 1) hx hb dX11_buyFor_16 (by decide) ?_
        refine lv_bipush (v := 30) hx hb dX11_buyFor_17 (by decide) ?_
        refine mt_b1I hf (fun r23 hg22 hf => ?_)
        refine mt_goi (mt_runS (As := [.int a2, .int (1 : Int32), .int (30 : Int32)]) (rest := []) ⟨hx, hb, hml, hown, hts⟩ hI hH (c_X11_outside l E a2 (1 : Int32) (30 : Int32) M u _ hg22) (va_cwS 3 hts gX11_buyFor_X11_outside rfl rfl rfl (by decide +kernel) ⟨Nat.le_of_ble_eq_true rfl, Nat.le_of_ble_eq_true rfl⟩) rfl hl.1 rfl (Nat.le_of_ble_eq_true rfl) dX11_buyFor_19 ⟨Nat.zero_le _, Nat.zero_le _⟩) hS (fun H locs hH hS => ?_)
        refine lv_goto (tgt := 34) hx hb dX11_buyFor_22 (by decide) ?_
        exact hj6 r23 hf _ _ _ hH hS (lv_sub hl [1, 2, 3, 0] rfl)
  · intro j2 hj3 hf
    refine lv_icmp_ne (tgt := 9) hx hb dX11_buyFor_2 (by decide) (fun c24 => ?_) (fun c24 => ?_)
    · have hf := mt_ifF c24 hf
      refine lv_iconst (v := 0) hx hb dX11_buyFor_9 (by decide) ?_
      exact hj3 (0 : Int32) hf _ _ _ hH hS (lv_sub hl [0, 1, 2] rfl)
    · have hf := mt_ifT c24 hf
      refine lv_iconst (v := 1) hx hb dX11_buyFor_5 (by decide) ?_
      refine lv_goto (tgt := 10) hx hb dX11_buyFor_6 (by decide) ?_
      exact hj3 (1 : Int32) hf _ _ _ hH hS (lv_sub hl [0, 1, 2] rfl)
set_option maxHeartbeats 4000000 in
set_option maxRecDepth 100000 in
theorem c_X11_order (l : Launch) (E : mt_E) (a1 : Int32) (a2 : Int32) (M : mt_M) (u : mt_U) (r : Int32) (M' : mt_M) (hf : f_X11_order a1 a2 M = some (r, M')) : Met l yX11_order wsX11_order ({ frames := 6, cells := 0, slots := 0, locals := 135 } : Room) (mt_P E [.ref (E.2.1 0), .int a1, .int a2] M u) (mt_Qi E r M' u) 0 0 (mt_A E) := by
  refine Met.ofW (cc := cX11_order) (maxL := 5) (ret := (some .int)) (by decide) rfl ?_
  intro p e s mid args below meth c0 s₁ B hml hv
  obtain ⟨rfl, hI, hH⟩ := hv
  have hx := B.exec
  have hb := B.bytes
  have hr := B.returns
  have hts := atoms_spec (ws := wsX11_order) B.pre
  have hown : s.vm.findClass RX11 = some mid.cls := findClass_of_methodNamed B.named
  have hlocks := B.notSynchronized
  have hS : va_S (mt_A E) s.heap s.heap [] := va_S.rf
  have hl := lv_entry ([.ref (E.2.1 0), .int a1, .int a2]) (n := 5) (Nat.le_of_ble_eq_true rfl)
  rw [lg_entry_eq]
  generalize (lg_sl ([.ref (E.2.1 0), .int a1, .int a2]) ++ List.replicate (5 - (lg_sl ([.ref (E.2.1 0), .int a1, .int a2])).length) Slot.unset).toArray = ls at hl ⊢
  have hl : lv_has ls 5 [(0, .ref (E.2.1 0)), (1, .int a1), (2, .int a2)] := hl
  unfold f_X11_order at hf
  have kw0 := hts (.fieldLink RX11 61 "MilkTwice" "mind" "LMilkTwice$Mind;") (List.mem_of_getElem? (i := 1) rfl)
  have hinX11 : ∀ w ∈ u_ws RX11 TX11 10, w ∈ wsX11_order := fun w h => List.mem_cons_of_mem _ (List.mem_append_left _ (List.mem_append_left _ (List.mem_append_left _ (List.mem_append_right _ h))))
  refine lv_iload_n hx hb dX11_order_0 rfl (lv_at hl 1 rfl) ?_
  refine lv_iconst (v := 0) hx hb dX11_order_1 (by decide) ?_
  refine lv_sipush (v := 999) hx hb dX11_order_2 (by decide) ?_
  refine mt_b1I hf (fun r2 hg1 hf => ?_)
  refine mt_goi (mt_runS (As := [.int a1, .int (0 : Int32), .int (999 : Int32)]) (rest := []) ⟨hx, hb, hml, hown, hts⟩ hI hH (c_X11_outside l E a1 (0 : Int32) (999 : Int32) M u _ hg1) (va_cwS 3 hts gX11_order_X11_outside rfl rfl rfl (by decide +kernel) ⟨Nat.le_of_ble_eq_true rfl, Nat.le_of_ble_eq_true rfl⟩) rfl hl.1 rfl (Nat.le_of_ble_eq_true rfl) dX11_order_5 ⟨Nat.zero_le _, Nat.zero_le _⟩) hS (fun H locs hH hS => ?_)
  refine lv_iload_n hx hb dX11_order_8 rfl (lv_at hl 2 rfl) ?_
  refine lv_iconst (v := 1) hx hb dX11_order_9 (by decide) ?_
  refine mt_b1I hf (fun r4 hg3 hf => ?_)
  refine mt_goi (mt_runS (As := [.int a2, .int (1 : Int32)]) (rest := [.int r2]) ⟨hx, hb, hml, hown, hts⟩ hI hH (c_X11_isOneOf l E a2 (1 : Int32) M u _ hg3) (va_cwS 2 hts gX11_order_X11_isOneOf rfl rfl rfl (by decide +kernel) ⟨Nat.le_of_ble_eq_true rfl, Nat.le_of_ble_eq_true rfl⟩) rfl hl.1 rfl (Nat.le_of_ble_eq_true rfl) dX11_order_10 ⟨Nat.zero_le _, Nat.zero_le _⟩) hS (fun H locs hH hS => ?_)
  refine lv_bipush (v := (-2)) hx hb dX11_order_13 (by decide) ?_
  refine mt_b1I hf (fun r6 hg5 hf => ?_)
  refine mt_goi (mt_runS (As := [.int r2, .int r4, .int (-2 : Int32)]) (rest := []) ⟨hx, hb, hml, hown, hts⟩ hI hH (c_X11_firstOf l E r2 r4 (-2 : Int32) M u _ hg5) (va_cwS 3 hts gX11_order_X11_firstOf rfl rfl rfl (by decide +kernel) ⟨Nat.le_of_ble_eq_true rfl, Nat.le_of_ble_eq_true rfl⟩) rfl hl.1 rfl (Nat.le_of_ble_eq_true rfl) dX11_order_15 ⟨Nat.zero_le _, Nat.zero_le _⟩) hS (fun H locs hH hS => ?_)
  refine lv_istore_n (lv' := [(3, .int r6), (0, .ref (E.2.1 0)), (1, .int a1), (2, .int a2)]) hx hb dX11_order_18 rfl hl (by decide) rfl (fun ls hl => ?_)
  refine lv_iload_n hx hb dX11_order_19 rfl (lv_at hl 0 rfl) ?_
  refine lv_if_eq (tgt := 29) hx hb dX11_order_20 (by decide) (fun c7 => ?_) (fun c7 => ?_)
  · have hf := mt_ifT c7 hf
    refine lv_aload_n hx hb dX11_order_29 rfl (lv_at hl 1 rfl) ?_
    refine mt_getr (C := RX11) (T := TX11) (N := 10) hx hb hts hinX11 hown hI hH mt_T0 rfl 5 (by decide) kw0 rfl rfl dX11_order_30 ?_
    refine lv_iload_n hx hb dX11_order_33 rfl (lv_at hl 2 rfl) ?_
    refine mt_b2I hf (fun r9 M10 hg8 hf => ?_)
    refine mt_goi (mt_runV (i := 133) (As := [.int a1]) (rest := []) ⟨hx, hb, hml, hown, hts⟩ hI hH (c_X8_bestSet l E a1 M u _ _ hg8) (cwV 1 hts gX11_order_X8_bestSet rfl rfl rfl (by decide +kernel) ⟨Nat.le_of_ble_eq_true rfl, Nat.le_of_ble_eq_true rfl⟩) mt_T133 rfl rfl hl.1 rfl (Nat.le_of_ble_eq_true rfl) dX11_order_34 ⟨Nat.zero_le _, Nat.zero_le _⟩) hS (fun H locs hH hS => ?_)
    refine lv_istore (lv' := [(4, .int r9), (3, .int r6), (0, .ref (E.2.1 0)), (1, .int a1), (2, .int a2)]) hx hb dX11_order_37 hl (by decide) rfl (fun ls hl => ?_)
    refine lv_iload_n hx hb dX11_order_39 rfl (lv_at hl 4 rfl) ?_
    refine lv_if_ne (tgt := 48) hx hb dX11_order_40 (by decide) (fun c11 => ?_) (fun c11 => ?_)
    · have hf := mt_ifF c11 hf
      refine lv_aload_n hx hb dX11_order_48 rfl (lv_at hl 2 rfl) ?_
      refine mt_getr (C := RX11) (T := TX11) (N := 10) hx hb hts hinX11 hown hI hH mt_T0 rfl 5 (by decide) kw0 rfl rfl dX11_order_49 ?_
      refine lv_iload hx hb dX11_order_52 (lv_at hl 0 rfl) ?_
      refine mt_b1I hf (fun r13 hg12 hf => ?_)
      refine mt_goi (mt_runV (i := 133) (As := [.int r9]) (rest := []) ⟨hx, hb, hml, hown, hts⟩ hI hH (c_X8_lackedBySet l E r9 M10 u _ hg12) (cwV 1 hts gX11_order_X8_lackedBySet rfl rfl rfl (by decide +kernel) ⟨Nat.le_of_ble_eq_true rfl, Nat.le_of_ble_eq_true rfl⟩) mt_T133 rfl rfl hl.1 rfl (Nat.le_of_ble_eq_true rfl) dX11_order_54 ⟨Nat.zero_le _, Nat.zero_le _⟩) hS (fun H locs hH hS => ?_)
      obtain ⟨i1, i2⟩ := mt_so2 hf
      subst i1
      subst i2
      exact mt_iret hx hb hr hI hH hS hlocks dX11_order_57
    · have hf := mt_ifT c11 hf
      refine lv_iload hx hb dX11_order_43 (lv_at hl 0 rfl) ?_
      refine lv_goto (tgt := 57) hx hb dX11_order_45 (by decide) ?_
      obtain ⟨i1, i2⟩ := mt_so2 hf
      subst i1
      subst i2
      exact mt_iret hx hb hr hI hH hS hlocks dX11_order_57
  · have hf := mt_ifF c7 hf
    refine lv_aload_n hx hb dX11_order_23 rfl (lv_at hl 1 rfl) ?_
    refine lv_iload_n hx hb dX11_order_24 rfl (lv_at hl 0 rfl) ?_
    refine mt_b2I hf (fun r15 M16 hg14 hf => ?_)
    refine mt_goi (mt_runV (i := 0) (As := [.int r6]) (rest := []) ⟨hx, hb, hml, hown, hts⟩ hI hH (c_X11_refuse l E r6 M u _ _ hg14) (cwV 1 hts gX11_order_X11_refuse rfl rfl rfl (by decide +kernel) ⟨Nat.le_of_ble_eq_true rfl, Nat.le_of_ble_eq_true rfl⟩) mt_T0 rfl rfl hl.1 rfl (Nat.le_of_ble_eq_true rfl) dX11_order_25 ⟨Nat.zero_le _, Nat.zero_le _⟩) hS (fun H locs hH hS => ?_)
    obtain ⟨i1, i2⟩ := mt_so2 hf
    subst i1
    subst i2
    exact mt_iret hx hb hr hI hH hS hlocks dX11_order_28
set_option maxHeartbeats 4000000 in
set_option maxRecDepth 100000 in
theorem c_X11_lasts (l : Launch) (E : mt_E) (a1 : Int32) (M : mt_M) (u : mt_U) (r : Int32) (M' : mt_M) (hf : f_X11_lasts a1 M = some (r, M')) : Met l yX11_lasts wsX11_lasts ({ frames := 4, cells := 0, slots := 0, locals := 91 } : Room) (mt_P E [.ref (E.2.1 0), .int a1] M u) (mt_Qi E r M' u) 0 0 (mt_A E) := by
  refine Met.ofW (cc := cX11_lasts) (maxL := 3) (ret := (some .int)) (by decide) rfl ?_
  intro p e s mid args below meth c0 s₁ B hml hv
  obtain ⟨rfl, hI, hH⟩ := hv
  have hx := B.exec
  have hb := B.bytes
  have hr := B.returns
  have hts := atoms_spec (ws := wsX11_lasts) B.pre
  have hown : s.vm.findClass RX11 = some mid.cls := findClass_of_methodNamed B.named
  have hlocks := B.notSynchronized
  have hS : va_S (mt_A E) s.heap s.heap [] := va_S.rf
  have hl := lv_entry ([.ref (E.2.1 0), .int a1]) (n := 3) (Nat.le_of_ble_eq_true rfl)
  rw [lg_entry_eq]
  generalize (lg_sl ([.ref (E.2.1 0), .int a1]) ++ List.replicate (3 - (lg_sl ([.ref (E.2.1 0), .int a1])).length) Slot.unset).toArray = ls at hl ⊢
  have hl : lv_has ls 3 [(0, .ref (E.2.1 0)), (1, .int a1)] := hl
  unfold f_X11_lasts at hf
  have kw0 := hts (.fieldLink RX11 61 "MilkTwice" "mind" "LMilkTwice$Mind;") (List.mem_of_getElem? (i := 1) rfl)
  have hinX11 : ∀ w ∈ u_ws RX11 TX11 10, w ∈ wsX11_lasts := fun w h => List.mem_cons_of_mem _ (List.mem_append_left _ (List.mem_append_left _ (List.mem_append_left _ (List.mem_append_right _ h))))
  refine lv_iload_n hx hb dX11_lasts_0 rfl (lv_at hl 1 rfl) ?_
  refine lv_iconst (v := 1) hx hb dX11_lasts_1 (by decide) ?_
  refine lv_bipush (v := 7) hx hb dX11_lasts_2 (by decide) ?_
  refine mt_b1I hf (fun r2 hg1 hf => ?_)
  refine mt_goi (mt_runS (As := [.int a1, .int (1 : Int32), .int (7 : Int32)]) (rest := []) ⟨hx, hb, hml, hown, hts⟩ hI hH (c_X11_outside l E a1 (1 : Int32) (7 : Int32) M u _ hg1) (va_cwS 3 hts gX11_lasts_X11_outside rfl rfl rfl (by decide +kernel) ⟨Nat.le_of_ble_eq_true rfl, Nat.le_of_ble_eq_true rfl⟩) rfl hl.1 rfl (Nat.le_of_ble_eq_true rfl) dX11_lasts_4 ⟨Nat.zero_le _, Nat.zero_le _⟩) hS (fun H locs hH hS => ?_)
  refine lv_istore_n (lv' := [(2, .int r2), (0, .ref (E.2.1 0)), (1, .int a1)]) hx hb dX11_lasts_7 rfl hl (by decide) rfl (fun ls hl => ?_)
  refine lv_iload_n hx hb dX11_lasts_8 rfl (lv_at hl 0 rfl) ?_
  refine lv_if_eq (tgt := 20) hx hb dX11_lasts_9 (by decide) (fun c3 => ?_) (fun c3 => ?_)
  · have hf := mt_ifT c3 hf
    refine lv_aload_n hx hb dX11_lasts_20 rfl (lv_at hl 1 rfl) ?_
    refine mt_getr (C := RX11) (T := TX11) (N := 10) hx hb hts hinX11 hown hI hH mt_T0 rfl 5 (by decide) kw0 rfl rfl dX11_lasts_21 ?_
    refine lv_iload_n hx hb dX11_lasts_24 rfl (lv_at hl 2 rfl) ?_
    refine mt_b2I hf (fun r5 M6 hg4 hf => ?_)
    refine mt_goi (mt_runV (i := 133) (As := [.int a1]) (rest := []) ⟨hx, hb, hml, hown, hts⟩ hI hH (c_X8_firstDayWithoutSome l E a1 M u _ _ hg4) (cwV 1 hts gX11_lasts_X8_firstDayWithoutSome rfl rfl rfl (by decide +kernel) ⟨Nat.le_of_ble_eq_true rfl, Nat.le_of_ble_eq_true rfl⟩) mt_T133 rfl rfl hl.1 rfl (Nat.le_of_ble_eq_true rfl) dX11_lasts_25 ⟨Nat.zero_le _, Nat.zero_le _⟩) hS (fun H locs hH hS => ?_)
    obtain ⟨i1, i2⟩ := mt_so2 hf
    subst i1
    subst i2
    exact mt_iret hx hb hr hI hH hS hlocks dX11_lasts_28
  · have hf := mt_ifF c3 hf
    refine lv_aload_n hx hb dX11_lasts_12 rfl (lv_at hl 1 rfl) ?_
    refine lv_iload_n hx hb dX11_lasts_13 rfl (lv_at hl 0 rfl) ?_
    refine mt_b2I hf (fun r8 M9 hg7 hf => ?_)
    refine mt_goi (mt_runV (i := 0) (As := [.int r2]) (rest := []) ⟨hx, hb, hml, hown, hts⟩ hI hH (c_X11_refuse l E r2 M u _ _ hg7) (cwV 1 hts gX11_lasts_X11_refuse rfl rfl rfl (by decide +kernel) ⟨Nat.le_of_ble_eq_true rfl, Nat.le_of_ble_eq_true rfl⟩) mt_T0 rfl rfl hl.1 rfl (Nat.le_of_ble_eq_true rfl) dX11_lasts_14 ⟨Nat.zero_le _, Nat.zero_le _⟩) hS (fun H locs hH hS => ?_)
    refine lv_goto (tgt := 28) hx hb dX11_lasts_17 (by decide) ?_
    obtain ⟨i1, i2⟩ := mt_so2 hf
    subst i1
    subst i2
    exact mt_iret hx hb hr hI hH hS hlocks dX11_lasts_28
set_option maxHeartbeats 4000000 in
set_option maxRecDepth 100000 in
theorem c_X11_needs (l : Launch) (E : mt_E) (a1 : Int32) (a2 : Int32) (M : mt_M) (u : mt_U) (r : Int32) (M' : mt_M) (hf : f_X11_needs a1 a2 M = some (r, M')) : Met l yX11_needs wsX11_needs ({ frames := 5, cells := 0, slots := 0, locals := 114 } : Room) (mt_P E [.ref (E.2.1 0), .int a1, .int a2] M u) (mt_Qi E r M' u) 0 0 (mt_A E) := by
  refine Met.ofW (cc := cX11_needs) (maxL := 4) (ret := (some .int)) (by decide) rfl ?_
  intro p e s mid args below meth c0 s₁ B hml hv
  obtain ⟨rfl, hI, hH⟩ := hv
  have hx := B.exec
  have hb := B.bytes
  have hr := B.returns
  have hts := atoms_spec (ws := wsX11_needs) B.pre
  have hown : s.vm.findClass RX11 = some mid.cls := findClass_of_methodNamed B.named
  have hlocks := B.notSynchronized
  have hS : va_S (mt_A E) s.heap s.heap [] := va_S.rf
  have hl := lv_entry ([.ref (E.2.1 0), .int a1, .int a2]) (n := 4) (Nat.le_of_ble_eq_true rfl)
  rw [lg_entry_eq]
  generalize (lg_sl ([.ref (E.2.1 0), .int a1, .int a2]) ++ List.replicate (4 - (lg_sl ([.ref (E.2.1 0), .int a1, .int a2])).length) Slot.unset).toArray = ls at hl ⊢
  have hl : lv_has ls 4 [(0, .ref (E.2.1 0)), (1, .int a1), (2, .int a2)] := hl
  unfold f_X11_needs at hf
  have kw0 := hts (.fieldLink RX11 61 "MilkTwice" "mind" "LMilkTwice$Mind;") (List.mem_of_getElem? (i := 1) rfl)
  have hinX11 : ∀ w ∈ u_ws RX11 TX11 10, w ∈ wsX11_needs := fun w h => List.mem_cons_of_mem _ (List.mem_append_left _ (List.mem_append_left _ (List.mem_append_left _ (List.mem_append_right _ h))))
  refine lv_aload_n hx hb dX11_needs_0 rfl (lv_at hl 0 rfl) ?_
  refine lv_iload_n hx hb dX11_needs_1 rfl (lv_at hl 1 rfl) ?_
  refine lv_iload_n hx hb dX11_needs_2 rfl (lv_at hl 2 rfl) ?_
  refine lv_iconst (v := 1) hx hb dX11_needs_3 (by decide) ?_
  refine lv_bipush (v := 30) hx hb dX11_needs_4 (by decide) ?_
  refine mt_b1I hf (fun r2 hg1 hf => ?_)
  refine mt_goi (mt_runV (i := 0) (As := [.int a1, .int a2, .int (1 : Int32), .int (30 : Int32)]) (rest := []) ⟨hx, hb, hml, hown, hts⟩ hI hH (c_X11_refusalOf l E a1 a2 (1 : Int32) (30 : Int32) M u _ hg1) (cwV 4 hts gX11_needs_X11_refusalOf rfl rfl rfl (by decide +kernel) ⟨Nat.le_of_ble_eq_true rfl, Nat.le_of_ble_eq_true rfl⟩) mt_T0 rfl rfl hl.1 rfl (Nat.le_of_ble_eq_true rfl) dX11_needs_6 ⟨Nat.zero_le _, Nat.zero_le _⟩) hS (fun H locs hH hS => ?_)
  refine lv_istore_n (lv' := [(3, .int r2), (0, .ref (E.2.1 0)), (1, .int a1), (2, .int a2)]) hx hb dX11_needs_9 rfl hl (by decide) rfl (fun ls hl => ?_)
  refine lv_iload_n hx hb dX11_needs_10 rfl (lv_at hl 0 rfl) ?_
  refine lv_if_eq (tgt := 22) hx hb dX11_needs_11 (by decide) (fun c3 => ?_) (fun c3 => ?_)
  · have hf := mt_ifT c3 hf
    refine lv_aload_n hx hb dX11_needs_22 rfl (lv_at hl 1 rfl) ?_
    refine mt_getr (C := RX11) (T := TX11) (N := 10) hx hb hts hinX11 hown hI hH mt_T0 rfl 5 (by decide) kw0 rfl rfl dX11_needs_23 ?_
    refine lv_iload_n hx hb dX11_needs_26 rfl (lv_at hl 2 rfl) ?_
    refine lv_iload_n hx hb dX11_needs_27 rfl (lv_at hl 3 rfl) ?_
    refine mt_b2I hf (fun r5 M6 hg4 hf => ?_)
    refine mt_goi (mt_runV (i := 133) (As := [.int a1, .int a2]) (rest := []) ⟨hx, hb, hml, hown, hts⟩ hI hH (c_X8_leastStockFor l E a1 a2 M u _ _ hg4) (cwV 2 hts gX11_needs_X8_leastStockFor rfl rfl rfl (by decide +kernel) ⟨Nat.le_of_ble_eq_true rfl, Nat.le_of_ble_eq_true rfl⟩) mt_T133 rfl rfl hl.1 rfl (Nat.le_of_ble_eq_true rfl) dX11_needs_28 ⟨Nat.zero_le _, Nat.zero_le _⟩) hS (fun H locs hH hS => ?_)
    obtain ⟨i1, i2⟩ := mt_so2 hf
    subst i1
    subst i2
    exact mt_iret hx hb hr hI hH hS hlocks dX11_needs_31
  · have hf := mt_ifF c3 hf
    refine lv_aload_n hx hb dX11_needs_14 rfl (lv_at hl 1 rfl) ?_
    refine lv_iload_n hx hb dX11_needs_15 rfl (lv_at hl 0 rfl) ?_
    refine mt_b2I hf (fun r8 M9 hg7 hf => ?_)
    refine mt_goi (mt_runV (i := 0) (As := [.int r2]) (rest := []) ⟨hx, hb, hml, hown, hts⟩ hI hH (c_X11_refuse l E r2 M u _ _ hg7) (cwV 1 hts gX11_needs_X11_refuse rfl rfl rfl (by decide +kernel) ⟨Nat.le_of_ble_eq_true rfl, Nat.le_of_ble_eq_true rfl⟩) mt_T0 rfl rfl hl.1 rfl (Nat.le_of_ble_eq_true rfl) dX11_needs_16 ⟨Nat.zero_le _, Nat.zero_le _⟩) hS (fun H locs hH hS => ?_)
    refine lv_goto (tgt := 31) hx hb dX11_needs_19 (by decide) ?_
    obtain ⟨i1, i2⟩ := mt_so2 hf
    subst i1
    subst i2
    exact mt_iret hx hb hr hI hH hS hlocks dX11_needs_31
set_option maxHeartbeats 4000000 in
set_option maxRecDepth 100000 in
theorem c_X11_noWaste (l : Launch) (E : mt_E) (a1 : Int32) (a2 : Int32) (M : mt_M) (u : mt_U) (r : Int32) (M' : mt_M) (hf : f_X11_noWaste a1 a2 M = some (r, M')) : Met l yX11_noWaste wsX11_noWaste ({ frames := 5, cells := 0, slots := 0, locals := 115 } : Room) (mt_P E [.ref (E.2.1 0), .int a1, .int a2] M u) (mt_Qi E r M' u) 0 0 (mt_A E) := by
  refine Met.ofW (cc := cX11_noWaste) (maxL := 4) (ret := (some .int)) (by decide) rfl ?_
  intro p e s mid args below meth c0 s₁ B hml hv
  obtain ⟨rfl, hI, hH⟩ := hv
  have hx := B.exec
  have hb := B.bytes
  have hr := B.returns
  have hts := atoms_spec (ws := wsX11_noWaste) B.pre
  have hown : s.vm.findClass RX11 = some mid.cls := findClass_of_methodNamed B.named
  have hlocks := B.notSynchronized
  have hS : va_S (mt_A E) s.heap s.heap [] := va_S.rf
  have hl := lv_entry ([.ref (E.2.1 0), .int a1, .int a2]) (n := 4) (Nat.le_of_ble_eq_true rfl)
  rw [lg_entry_eq]
  generalize (lg_sl ([.ref (E.2.1 0), .int a1, .int a2]) ++ List.replicate (4 - (lg_sl ([.ref (E.2.1 0), .int a1, .int a2])).length) Slot.unset).toArray = ls at hl ⊢
  have hl : lv_has ls 4 [(0, .ref (E.2.1 0)), (1, .int a1), (2, .int a2)] := hl
  unfold f_X11_noWaste at hf
  have kw0 := hts (.fieldLink RX11 61 "MilkTwice" "mind" "LMilkTwice$Mind;") (List.mem_of_getElem? (i := 1) rfl)
  have hinX11 : ∀ w ∈ u_ws RX11 TX11 10, w ∈ wsX11_noWaste := fun w h => List.mem_cons_of_mem _ (List.mem_append_left _ (List.mem_append_left _ (List.mem_append_left _ (List.mem_append_right _ h))))
  refine lv_aload_n hx hb dX11_noWaste_0 rfl (lv_at hl 0 rfl) ?_
  refine lv_iload_n hx hb dX11_noWaste_1 rfl (lv_at hl 1 rfl) ?_
  refine lv_iload_n hx hb dX11_noWaste_2 rfl (lv_at hl 2 rfl) ?_
  refine lv_iconst (v := 1) hx hb dX11_noWaste_3 (by decide) ?_
  refine lv_bipush (v := 30) hx hb dX11_noWaste_4 (by decide) ?_
  refine mt_b1I hf (fun r2 hg1 hf => ?_)
  refine mt_goi (mt_runV (i := 0) (As := [.int a1, .int a2, .int (1 : Int32), .int (30 : Int32)]) (rest := []) ⟨hx, hb, hml, hown, hts⟩ hI hH (c_X11_refusalOf l E a1 a2 (1 : Int32) (30 : Int32) M u _ hg1) (cwV 4 hts gX11_noWaste_X11_refusalOf rfl rfl rfl (by decide +kernel) ⟨Nat.le_of_ble_eq_true rfl, Nat.le_of_ble_eq_true rfl⟩) mt_T0 rfl rfl hl.1 rfl (Nat.le_of_ble_eq_true rfl) dX11_noWaste_6 ⟨Nat.zero_le _, Nat.zero_le _⟩) hS (fun H locs hH hS => ?_)
  refine lv_istore_n (lv' := [(3, .int r2), (0, .ref (E.2.1 0)), (1, .int a1), (2, .int a2)]) hx hb dX11_noWaste_9 rfl hl (by decide) rfl (fun ls hl => ?_)
  refine lv_iload_n hx hb dX11_noWaste_10 rfl (lv_at hl 0 rfl) ?_
  refine lv_if_eq (tgt := 22) hx hb dX11_noWaste_11 (by decide) (fun c3 => ?_) (fun c3 => ?_)
  · have hf := mt_ifT c3 hf
    refine lv_aload_n hx hb dX11_noWaste_22 rfl (lv_at hl 1 rfl) ?_
    refine mt_getr (C := RX11) (T := TX11) (N := 10) hx hb hts hinX11 hown hI hH mt_T0 rfl 5 (by decide) kw0 rfl rfl dX11_noWaste_23 ?_
    refine lv_iload_n hx hb dX11_noWaste_26 rfl (lv_at hl 2 rfl) ?_
    refine lv_iload_n hx hb dX11_noWaste_27 rfl (lv_at hl 3 rfl) ?_
    refine mt_b2I hf (fun r5 M6 hg4 hf => ?_)
    refine mt_goi (mt_runV (i := 133) (As := [.int a1, .int a2]) (rest := []) ⟨hx, hb, hml, hown, hts⟩ hI hH (c_X8_mostPacksUnspoilt l E a1 a2 M u _ _ hg4) (cwV 2 hts gX11_noWaste_X8_mostPacksUnspoilt rfl rfl rfl (by decide +kernel) ⟨Nat.le_of_ble_eq_true rfl, Nat.le_of_ble_eq_true rfl⟩) mt_T133 rfl rfl hl.1 rfl (Nat.le_of_ble_eq_true rfl) dX11_noWaste_28 ⟨Nat.zero_le _, Nat.zero_le _⟩) hS (fun H locs hH hS => ?_)
    obtain ⟨i1, i2⟩ := mt_so2 hf
    subst i1
    subst i2
    exact mt_iret hx hb hr hI hH hS hlocks dX11_noWaste_31
  · have hf := mt_ifF c3 hf
    refine lv_aload_n hx hb dX11_noWaste_14 rfl (lv_at hl 1 rfl) ?_
    refine lv_iload_n hx hb dX11_noWaste_15 rfl (lv_at hl 0 rfl) ?_
    refine mt_b2I hf (fun r8 M9 hg7 hf => ?_)
    refine mt_goi (mt_runV (i := 0) (As := [.int r2]) (rest := []) ⟨hx, hb, hml, hown, hts⟩ hI hH (c_X11_refuse l E r2 M u _ _ hg7) (cwV 1 hts gX11_noWaste_X11_refuse rfl rfl rfl (by decide +kernel) ⟨Nat.le_of_ble_eq_true rfl, Nat.le_of_ble_eq_true rfl⟩) mt_T0 rfl rfl hl.1 rfl (Nat.le_of_ble_eq_true rfl) dX11_noWaste_16 ⟨Nat.zero_le _, Nat.zero_le _⟩) hS (fun H locs hH hS => ?_)
    refine lv_goto (tgt := 31) hx hb dX11_noWaste_19 (by decide) ?_
    obtain ⟨i1, i2⟩ := mt_so2 hf
    subst i1
    subst i2
    exact mt_iret hx hb hr hI hH hS hlocks dX11_noWaste_31
set_option maxHeartbeats 4000000 in
set_option maxRecDepth 100000 in
theorem c_X11_cheapest (l : Launch) (E : mt_E) (a1 : Int32) (a2 : Int32) (M : mt_M) (u : mt_U) (r : Int32) (M' : mt_M) (hf : f_X11_cheapest a1 a2 M = some (r, M')) : Met l yX11_cheapest wsX11_cheapest ({ frames := 6, cells := 0, slots := 0, locals := 137 } : Room) (mt_P E [.ref (E.2.1 0), .int a1, .int a2] M u) (mt_Qi E r M' u) 0 0 (mt_A E) := by
  refine Met.ofW (cc := cX11_cheapest) (maxL := 3) (ret := (some .int)) (by decide) rfl ?_
  intro p e s mid args below meth c0 s₁ B hml hv
  obtain ⟨rfl, hI, hH⟩ := hv
  have hx := B.exec
  have hb := B.bytes
  have hr := B.returns
  have hts := atoms_spec (ws := wsX11_cheapest) B.pre
  have hown : s.vm.findClass RX11 = some mid.cls := findClass_of_methodNamed B.named
  have hlocks := B.notSynchronized
  have hS : va_S (mt_A E) s.heap s.heap [] := va_S.rf
  have hl := lv_entry ([.ref (E.2.1 0), .int a1, .int a2]) (n := 3) (Nat.le_of_ble_eq_true rfl)
  rw [lg_entry_eq]
  generalize (lg_sl ([.ref (E.2.1 0), .int a1, .int a2]) ++ List.replicate (3 - (lg_sl ([.ref (E.2.1 0), .int a1, .int a2])).length) Slot.unset).toArray = ls at hl ⊢
  have hl : lv_has ls 3 [(0, .ref (E.2.1 0)), (1, .int a1), (2, .int a2)] := hl
  unfold f_X11_cheapest at hf
  have kw0 := hts (.fieldLink RX11 61 "MilkTwice" "mind" "LMilkTwice$Mind;") (List.mem_of_getElem? (i := 1) rfl)
  have hinX11 : ∀ w ∈ u_ws RX11 TX11 10, w ∈ wsX11_cheapest := fun w h => List.mem_cons_of_mem _ (List.mem_append_left _ (List.mem_append_left _ (List.mem_append_left _ (List.mem_append_right _ h))))
  refine lv_iload_n hx hb dX11_cheapest_0 rfl (lv_at hl 1 rfl) ?_
  refine mt_jn0 hf (∀ (H : Heap) (locs : List Loc) (ls : Array Slot), mt_H E M u H → va_S (mt_A E) s.heap H locs → lv_has ls 3 [(0, .ref (E.2.1 0))] → W p l e (headSpec wsX11_cheapest ({ frames := 6, cells := 0, slots := 0, locals := 137 } : Room)).room s mid (([.ref (E.2.1 0), .int a1, .int a2] : List Value).toArray) below meth c0 H locs 0 0 (MQ below (mt_Qi E r M' u) (([.ref (E.2.1 0), .int a1, .int a2] : List Value).toArray) s 0 0 (mt_A E)) (F0 mid 9 ls [])) ?_ ?_
  · intro hf H locs ls hH hS hl
    refine lv_aload_n hx hb dX11_cheapest_9 rfl (lv_at hl 0 rfl) ?_
    refine lv_bipush (v := (-4)) hx hb dX11_cheapest_10 (by decide) ?_
    refine mt_b2I hf (fun r4 M5 hg3 hf => ?_)
    refine mt_goi (mt_runV (i := 0) (As := [.int (-4 : Int32)]) (rest := []) ⟨hx, hb, hml, hown, hts⟩ hI hH (c_X11_refuse l E (-4 : Int32) M u _ _ hg3) (cwV 1 hts gX11_cheapest_X11_refuse rfl rfl rfl (by decide +kernel) ⟨Nat.le_of_ble_eq_true rfl, Nat.le_of_ble_eq_true rfl⟩) mt_T0 rfl rfl hl.1 rfl (Nat.le_of_ble_eq_true rfl) dX11_cheapest_12 ⟨Nat.zero_le _, Nat.zero_le _⟩) hS (fun H locs hH hS => ?_)
    obtain ⟨i1, i2⟩ := mt_so2 hf
    subst i1
    subst i2
    exact mt_iret hx hb hr hI hH hS hlocks dX11_cheapest_15
  · intro j1 hj2 hf
    refine lv_if_lt (tgt := 9) hx hb dX11_cheapest_1 (by decide) (fun c6 => ?_) (fun c6 => ?_)
    · have hf := mt_ifT c6 hf
      exact hj2 hf _ _ _ hH hS (lv_sub hl [0] rfl)
    · have hf := mt_ifF c6 hf
      refine lv_iload_n hx hb dX11_cheapest_4 rfl (lv_at hl 2 rfl) ?_
      refine lv_iconst (v := 1) hx hb dX11_cheapest_5 (by decide) ?_
      refine lv_icmp_ge (tgt := 16) hx hb dX11_cheapest_6 (by decide) (fun c7 => ?_) (fun c7 => ?_)
      · have hf := mt_ifT c7 hf
        refine lv_iload_n hx hb dX11_cheapest_16 rfl (lv_at hl 1 rfl) ?_
        refine lv_bipush (v := 7) hx hb dX11_cheapest_17 (by decide) ?_
        refine mt_jn0 hf (∀ (H : Heap) (locs : List Loc) (ls : Array Slot), mt_H E M u H → va_S (mt_A E) s.heap H locs → lv_has ls 3 [(0, .ref (E.2.1 0))] → W p l e (headSpec wsX11_cheapest ({ frames := 6, cells := 0, slots := 0, locals := 137 } : Room)).room s mid (([.ref (E.2.1 0), .int a1, .int a2] : List Value).toArray) below meth c0 H locs 0 0 (MQ below (mt_Qi E r M' u) (([.ref (E.2.1 0), .int a1, .int a2] : List Value).toArray) s 0 0 (mt_A E)) (F0 mid 28 ls [])) ?_ ?_
        · intro hf H locs ls hH hS hl
          refine lv_aload_n hx hb dX11_cheapest_28 rfl (lv_at hl 0 rfl) ?_
          refine lv_bipush (v := (-6)) hx hb dX11_cheapest_29 (by decide) ?_
          refine mt_b2I hf (fun r11 M12 hg10 hf => ?_)
          refine mt_goi (mt_runV (i := 0) (As := [.int (-6 : Int32)]) (rest := []) ⟨hx, hb, hml, hown, hts⟩ hI hH (c_X11_refuse l E (-6 : Int32) M u _ _ hg10) (cwV 1 hts gX11_cheapest_X11_refuse rfl rfl rfl (by decide +kernel) ⟨Nat.le_of_ble_eq_true rfl, Nat.le_of_ble_eq_true rfl⟩) mt_T0 rfl rfl hl.1 rfl (Nat.le_of_ble_eq_true rfl) dX11_cheapest_31 ⟨Nat.zero_le _, Nat.zero_le _⟩) hS (fun H locs hH hS => ?_)
          obtain ⟨i1, i2⟩ := mt_so2 hf
          subst i1
          subst i2
          exact mt_iret hx hb hr hI hH hS hlocks dX11_cheapest_34
        · intro j8 hj9 hf
          refine lv_icmp_gt (tgt := 28) hx hb dX11_cheapest_19 (by decide) (fun c13 => ?_) (fun c13 => ?_)
          · have hf := mt_ifT c13 hf
            exact hj9 hf _ _ _ hH hS (lv_sub hl [0] rfl)
          · have hf := mt_ifF c13 hf
            refine lv_iload_n hx hb dX11_cheapest_22 rfl (lv_at hl 2 rfl) ?_
            refine lv_bipush (v := 30) hx hb dX11_cheapest_23 (by decide) ?_
            refine lv_icmp_le (tgt := 35) hx hb dX11_cheapest_25 (by decide) (fun c14 => ?_) (fun c14 => ?_)
            · have hf := mt_ifT c14 hf
              refine lv_aload_n hx hb dX11_cheapest_35 rfl (lv_at hl 0 rfl) ?_
              refine mt_getr (C := RX11) (T := TX11) (N := 10) hx hb hts hinX11 hown hI hH mt_T0 rfl 5 (by decide) kw0 rfl rfl dX11_cheapest_36 ?_
              refine lv_iload_n hx hb dX11_cheapest_39 rfl (lv_at hl 2 rfl) ?_
              refine mt_b1I hf (fun M16 hg15 hf => ?_)
              refine mt_gov (mt_runV (i := 133) (As := [.int a2]) (rest := []) ⟨hx, hb, hml, hown, hts⟩ hI hH (c_X8_noteCosts l E a2 M u _ hg15) (cwV 1 hts gX11_cheapest_X8_noteCosts rfl rfl rfl (by decide +kernel) ⟨Nat.le_of_ble_eq_true rfl, Nat.le_of_ble_eq_true rfl⟩) mt_T133 rfl rfl hl.1 rfl (Nat.le_of_ble_eq_true rfl) dX11_cheapest_40 ⟨Nat.zero_le _, Nat.zero_le _⟩) hS (fun H locs hH hS => ?_)
              refine lv_aload_n hx hb dX11_cheapest_43 rfl (lv_at hl 0 rfl) ?_
              refine mt_getr (C := RX11) (T := TX11) (N := 10) hx hb hts hinX11 hown hI hH mt_T0 rfl 5 (by decide) kw0 rfl rfl dX11_cheapest_44 ?_
              refine lv_iload_n hx hb dX11_cheapest_47 rfl (lv_at hl 1 rfl) ?_
              refine mt_b2I hf (fun r18 M19 hg17 hf => ?_)
              refine mt_goi (mt_runV (i := 133) (As := [.int a1]) (rest := []) ⟨hx, hb, hml, hown, hts⟩ hI hH (c_X8_fewestPence l E a1 M16 u _ _ hg17) (cwV 1 hts gX11_cheapest_X8_fewestPence rfl rfl rfl (by decide +kernel) ⟨Nat.le_of_ble_eq_true rfl, Nat.le_of_ble_eq_true rfl⟩) mt_T133 rfl rfl hl.1 rfl (Nat.le_of_ble_eq_true rfl) dX11_cheapest_48 ⟨Nat.zero_le _, Nat.zero_le _⟩) hS (fun H locs hH hS => ?_)
              obtain ⟨i1, i2⟩ := mt_so2 hf
              subst i1
              subst i2
              exact mt_iret hx hb hr hI hH hS hlocks dX11_cheapest_51
            · have hf := mt_ifF c14 hf
              exact hj9 hf _ _ _ hH hS (lv_sub hl [0] rfl)
      · have hf := mt_ifF c7 hf
        exact hj2 hf _ _ _ hH hS (lv_sub hl [0] rfl)
set_option maxHeartbeats 4000000 in
set_option maxRecDepth 100000 in
theorem c_X11_interval (l : Launch) (E : mt_E) (a1 : Int32) (M : mt_M) (u : mt_U) (r : Int32) (M' : mt_M) (hf : f_X11_interval a1 M = some (r, M')) : Met l yX11_interval wsX11_interval ({ frames := 5, cells := 0, slots := 0, locals := 115 } : Room) (mt_P E [.ref (E.2.1 0), .int a1] M u) (mt_Qi E r M' u) 0 0 (mt_A E) := by
  refine Met.ofW (cc := cX11_interval) (maxL := 3) (ret := (some .int)) (by decide) rfl ?_
  intro p e s mid args below meth c0 s₁ B hml hv
  obtain ⟨rfl, hI, hH⟩ := hv
  have hx := B.exec
  have hb := B.bytes
  have hr := B.returns
  have hts := atoms_spec (ws := wsX11_interval) B.pre
  have hown : s.vm.findClass RX11 = some mid.cls := findClass_of_methodNamed B.named
  have hlocks := B.notSynchronized
  have hS : va_S (mt_A E) s.heap s.heap [] := va_S.rf
  have hl := lv_entry ([.ref (E.2.1 0), .int a1]) (n := 3) (Nat.le_of_ble_eq_true rfl)
  rw [lg_entry_eq]
  generalize (lg_sl ([.ref (E.2.1 0), .int a1]) ++ List.replicate (3 - (lg_sl ([.ref (E.2.1 0), .int a1])).length) Slot.unset).toArray = ls at hl ⊢
  have hl : lv_has ls 3 [(0, .ref (E.2.1 0)), (1, .int a1)] := hl
  unfold f_X11_interval at hf
  have kw0 := hts (.fieldLink RX11 61 "MilkTwice" "mind" "LMilkTwice$Mind;") (List.mem_of_getElem? (i := 1) rfl)
  have hinX11 : ∀ w ∈ u_ws RX11 TX11 10, w ∈ wsX11_interval := fun w h => List.mem_cons_of_mem _ (List.mem_append_left _ (List.mem_append_left _ (List.mem_append_left _ (List.mem_append_right _ h))))
  refine lv_iload_n hx hb dX11_interval_0 rfl (lv_at hl 1 rfl) ?_
  refine lv_iconst (v := 1) hx hb dX11_interval_1 (by decide) ?_
  refine lv_bipush (v := 9) hx hb dX11_interval_2 (by decide) ?_
  refine mt_b1I hf (fun r2 hg1 hf => ?_)
  refine mt_goi (mt_runS (As := [.int a1, .int (1 : Int32), .int (9 : Int32)]) (rest := []) ⟨hx, hb, hml, hown, hts⟩ hI hH (c_X11_outside l E a1 (1 : Int32) (9 : Int32) M u _ hg1) (va_cwS 3 hts gX11_interval_X11_outside rfl rfl rfl (by decide +kernel) ⟨Nat.le_of_ble_eq_true rfl, Nat.le_of_ble_eq_true rfl⟩) rfl hl.1 rfl (Nat.le_of_ble_eq_true rfl) dX11_interval_4 ⟨Nat.zero_le _, Nat.zero_le _⟩) hS (fun H locs hH hS => ?_)
  refine lv_istore_n (lv' := [(2, .int r2), (0, .ref (E.2.1 0)), (1, .int a1)]) hx hb dX11_interval_7 rfl hl (by decide) rfl (fun ls hl => ?_)
  refine lv_iload_n hx hb dX11_interval_8 rfl (lv_at hl 0 rfl) ?_
  refine lv_if_eq (tgt := 20) hx hb dX11_interval_9 (by decide) (fun c3 => ?_) (fun c3 => ?_)
  · have hf := mt_ifT c3 hf
    refine lv_aload_n hx hb dX11_interval_20 rfl (lv_at hl 1 rfl) ?_
    refine mt_getr (C := RX11) (T := TX11) (N := 10) hx hb hts hinX11 hown hI hH mt_T0 rfl 5 (by decide) kw0 rfl rfl dX11_interval_21 ?_
    refine lv_iload_n hx hb dX11_interval_24 rfl (lv_at hl 2 rfl) ?_
    refine mt_b2I hf (fun r5 M6 hg4 hf => ?_)
    refine mt_goi (mt_runV (i := 133) (As := [.int a1]) (rest := []) ⟨hx, hb, hml, hown, hts⟩ hI hH (c_X8_longestInterval l E a1 M u _ _ hg4) (cwV 1 hts gX11_interval_X8_longestInterval rfl rfl rfl (by decide +kernel) ⟨Nat.le_of_ble_eq_true rfl, Nat.le_of_ble_eq_true rfl⟩) mt_T133 rfl rfl hl.1 rfl (Nat.le_of_ble_eq_true rfl) dX11_interval_25 ⟨Nat.zero_le _, Nat.zero_le _⟩) hS (fun H locs hH hS => ?_)
    obtain ⟨i1, i2⟩ := mt_so2 hf
    subst i1
    subst i2
    exact mt_iret hx hb hr hI hH hS hlocks dX11_interval_28
  · have hf := mt_ifF c3 hf
    refine lv_aload_n hx hb dX11_interval_12 rfl (lv_at hl 1 rfl) ?_
    refine lv_iload_n hx hb dX11_interval_13 rfl (lv_at hl 0 rfl) ?_
    refine mt_b2I hf (fun r8 M9 hg7 hf => ?_)
    refine mt_goi (mt_runV (i := 0) (As := [.int r2]) (rest := []) ⟨hx, hb, hml, hown, hts⟩ hI hH (c_X11_refuse l E r2 M u _ _ hg7) (cwV 1 hts gX11_interval_X11_refuse rfl rfl rfl (by decide +kernel) ⟨Nat.le_of_ble_eq_true rfl, Nat.le_of_ble_eq_true rfl⟩) mt_T0 rfl rfl hl.1 rfl (Nat.le_of_ble_eq_true rfl) dX11_interval_14 ⟨Nat.zero_le _, Nat.zero_le _⟩) hS (fun H locs hH hS => ?_)
    refine lv_goto (tgt := 28) hx hb dX11_interval_17 (by decide) ?_
    obtain ⟨i1, i2⟩ := mt_so2 hf
    subst i1
    subst i2
    exact mt_iret hx hb hr hI hH hS hlocks dX11_interval_28
set_option maxHeartbeats 4000000 in
set_option maxRecDepth 100000 in
theorem c_X11_turns (l : Launch) (E : mt_E) (a1 : Int32) (a2 : Int32) (M : mt_M) (u : mt_U) (r : Int32) (M' : mt_M) (hf : f_X11_turns a1 a2 M = some (r, M')) : Met l yX11_turns wsX11_turns ({ frames := 5, cells := 0, slots := 0, locals := 112 } : Room) (mt_P E [.ref (E.2.1 0), .int a1, .int a2] M u) (mt_Qi E r M' u) 0 0 (mt_A E) := by
  refine Met.ofW (cc := cX11_turns) (maxL := 4) (ret := (some .int)) (by decide) rfl ?_
  intro p e s mid args below meth c0 s₁ B hml hv
  obtain ⟨rfl, hI, hH⟩ := hv
  have hx := B.exec
  have hb := B.bytes
  have hr := B.returns
  have hts := atoms_spec (ws := wsX11_turns) B.pre
  have hown : s.vm.findClass RX11 = some mid.cls := findClass_of_methodNamed B.named
  have hlocks := B.notSynchronized
  have hS : va_S (mt_A E) s.heap s.heap [] := va_S.rf
  have hl := lv_entry ([.ref (E.2.1 0), .int a1, .int a2]) (n := 4) (Nat.le_of_ble_eq_true rfl)
  rw [lg_entry_eq]
  generalize (lg_sl ([.ref (E.2.1 0), .int a1, .int a2]) ++ List.replicate (4 - (lg_sl ([.ref (E.2.1 0), .int a1, .int a2])).length) Slot.unset).toArray = ls at hl ⊢
  have hl : lv_has ls 4 [(0, .ref (E.2.1 0)), (1, .int a1), (2, .int a2)] := hl
  unfold f_X11_turns at hf
  have kw0 := hts (.fieldLink RX11 61 "MilkTwice" "mind" "LMilkTwice$Mind;") (List.mem_of_getElem? (i := 1) rfl)
  have hinX11 : ∀ w ∈ u_ws RX11 TX11 10, w ∈ wsX11_turns := fun w h => List.mem_cons_of_mem _ (List.mem_append_left _ (List.mem_append_left _ (List.mem_append_left _ (List.mem_append_right _ h))))
  refine lv_iload_n hx hb dX11_turns_0 rfl (lv_at hl 1 rfl) ?_
  refine lv_iconst (v := 1) hx hb dX11_turns_1 (by decide) ?_
  refine lv_bipush (v := 60) hx hb dX11_turns_2 (by decide) ?_
  refine mt_b1I hf (fun r2 hg1 hf => ?_)
  refine mt_goi (mt_runS (As := [.int a1, .int (1 : Int32), .int (60 : Int32)]) (rest := []) ⟨hx, hb, hml, hown, hts⟩ hI hH (c_X11_outside l E a1 (1 : Int32) (60 : Int32) M u _ hg1) (va_cwS 3 hts gX11_turns_X11_outside rfl rfl rfl (by decide +kernel) ⟨Nat.le_of_ble_eq_true rfl, Nat.le_of_ble_eq_true rfl⟩) rfl hl.1 rfl (Nat.le_of_ble_eq_true rfl) dX11_turns_4 ⟨Nat.zero_le _, Nat.zero_le _⟩) hS (fun H locs hH hS => ?_)
  refine lv_iload_n hx hb dX11_turns_7 rfl (lv_at hl 2 rfl) ?_
  refine lv_iconst (v := 1) hx hb dX11_turns_8 (by decide) ?_
  refine mt_b1I hf (fun r4 hg3 hf => ?_)
  refine mt_goi (mt_runS (As := [.int a2, .int (1 : Int32)]) (rest := [.int r2]) ⟨hx, hb, hml, hown, hts⟩ hI hH (c_X11_isOneOf l E a2 (1 : Int32) M u _ hg3) (va_cwS 2 hts gX11_turns_X11_isOneOf rfl rfl rfl (by decide +kernel) ⟨Nat.le_of_ble_eq_true rfl, Nat.le_of_ble_eq_true rfl⟩) rfl hl.1 rfl (Nat.le_of_ble_eq_true rfl) dX11_turns_9 ⟨Nat.zero_le _, Nat.zero_le _⟩) hS (fun H locs hH hS => ?_)
  refine lv_bipush (v := (-2)) hx hb dX11_turns_12 (by decide) ?_
  refine mt_b1I hf (fun r6 hg5 hf => ?_)
  refine mt_goi (mt_runS (As := [.int r2, .int r4, .int (-2 : Int32)]) (rest := []) ⟨hx, hb, hml, hown, hts⟩ hI hH (c_X11_firstOf l E r2 r4 (-2 : Int32) M u _ hg5) (va_cwS 3 hts gX11_turns_X11_firstOf rfl rfl rfl (by decide +kernel) ⟨Nat.le_of_ble_eq_true rfl, Nat.le_of_ble_eq_true rfl⟩) rfl hl.1 rfl (Nat.le_of_ble_eq_true rfl) dX11_turns_14 ⟨Nat.zero_le _, Nat.zero_le _⟩) hS (fun H locs hH hS => ?_)
  refine lv_istore_n (lv' := [(3, .int r6), (0, .ref (E.2.1 0)), (1, .int a1), (2, .int a2)]) hx hb dX11_turns_17 rfl hl (by decide) rfl (fun ls hl => ?_)
  refine lv_iload_n hx hb dX11_turns_18 rfl (lv_at hl 0 rfl) ?_
  refine lv_if_eq (tgt := 30) hx hb dX11_turns_19 (by decide) (fun c7 => ?_) (fun c7 => ?_)
  · have hf := mt_ifT c7 hf
    refine lv_aload_n hx hb dX11_turns_30 rfl (lv_at hl 1 rfl) ?_
    refine mt_getr (C := RX11) (T := TX11) (N := 10) hx hb hts hinX11 hown hI hH mt_T0 rfl 5 (by decide) kw0 rfl rfl dX11_turns_31 ?_
    refine lv_iload_n hx hb dX11_turns_34 rfl (lv_at hl 2 rfl) ?_
    refine lv_iload_n hx hb dX11_turns_35 rfl (lv_at hl 3 rfl) ?_
    refine mt_b2I hf (fun r9 M10 hg8 hf => ?_)
    refine mt_goi (mt_runV (i := 133) (As := [.int a1, .int a2]) (rest := []) ⟨hx, hb, hml, hown, hts⟩ hI hH (c_X8_costOfTurns l E a1 a2 M u _ _ hg8) (cwV 2 hts gX11_turns_X8_costOfTurns rfl rfl rfl (by decide +kernel) ⟨Nat.le_of_ble_eq_true rfl, Nat.le_of_ble_eq_true rfl⟩) mt_T133 rfl rfl hl.1 rfl (Nat.le_of_ble_eq_true rfl) dX11_turns_36 ⟨Nat.zero_le _, Nat.zero_le _⟩) hS (fun H locs hH hS => ?_)
    obtain ⟨i1, i2⟩ := mt_so2 hf
    subst i1
    subst i2
    exact mt_iret hx hb hr hI hH hS hlocks dX11_turns_39
  · have hf := mt_ifF c7 hf
    refine lv_aload_n hx hb dX11_turns_22 rfl (lv_at hl 1 rfl) ?_
    refine lv_iload_n hx hb dX11_turns_23 rfl (lv_at hl 0 rfl) ?_
    refine mt_b2I hf (fun r12 M13 hg11 hf => ?_)
    refine mt_goi (mt_runV (i := 0) (As := [.int r6]) (rest := []) ⟨hx, hb, hml, hown, hts⟩ hI hH (c_X11_refuse l E r6 M u _ _ hg11) (cwV 1 hts gX11_turns_X11_refuse rfl rfl rfl (by decide +kernel) ⟨Nat.le_of_ble_eq_true rfl, Nat.le_of_ble_eq_true rfl⟩) mt_T0 rfl rfl hl.1 rfl (Nat.le_of_ble_eq_true rfl) dX11_turns_24 ⟨Nat.zero_le _, Nat.zero_le _⟩) hS (fun H locs hH hS => ?_)
    refine lv_goto (tgt := 39) hx hb dX11_turns_27 (by decide) ?_
    obtain ⟨i1, i2⟩ := mt_so2 hf
    subst i1
    subst i2
    exact mt_iret hx hb hr hI hH hS hlocks dX11_turns_39
set_option maxHeartbeats 4000000 in
set_option maxRecDepth 100000 in
theorem c_X11_month (l : Launch) (E : mt_E)  (M : mt_M) (u : mt_U) (r : Int32) (M' : mt_M) (hf : f_X11_month M = some (r, M')) : Met l yX11_month wsX11_month ({ frames := 5, cells := 0, slots := 0, locals := 108 } : Room) (mt_P E [.ref (E.2.1 0)] M u) (mt_Qi E r M' u) 0 0 (mt_A E) := by
  refine Met.ofW (cc := cX11_month) (maxL := 1) (ret := (some .int)) (by decide) rfl ?_
  intro p e s mid args below meth c0 s₁ B hml hv
  obtain ⟨rfl, hI, hH⟩ := hv
  have hx := B.exec
  have hb := B.bytes
  have hr := B.returns
  have hts := atoms_spec (ws := wsX11_month) B.pre
  have hown : s.vm.findClass RX11 = some mid.cls := findClass_of_methodNamed B.named
  have hlocks := B.notSynchronized
  have hS : va_S (mt_A E) s.heap s.heap [] := va_S.rf
  have hl := lv_entry ([.ref (E.2.1 0)]) (n := 1) (Nat.le_of_ble_eq_true rfl)
  rw [lg_entry_eq]
  generalize (lg_sl ([.ref (E.2.1 0)]) ++ List.replicate (1 - (lg_sl ([.ref (E.2.1 0)])).length) Slot.unset).toArray = ls at hl ⊢
  have hl : lv_has ls 1 [(0, .ref (E.2.1 0))] := hl
  unfold f_X11_month at hf
  have kw0 := hts (.fieldLink RX11 61 "MilkTwice" "mind" "LMilkTwice$Mind;") (List.mem_of_getElem? (i := 1) rfl)
  have hinX11 : ∀ w ∈ u_ws RX11 TX11 10, w ∈ wsX11_month := fun w h => List.mem_cons_of_mem _ (List.mem_append_left _ (List.mem_append_left _ (List.mem_append_left _ (List.mem_append_right _ h))))
  refine lv_aload_n hx hb dX11_month_0 rfl (lv_at hl 0 rfl) ?_
  refine mt_getr (C := RX11) (T := TX11) (N := 10) hx hb hts hinX11 hown hI hH mt_T0 rfl 5 (by decide) kw0 rfl rfl dX11_month_1 ?_
  refine mt_b2I hf (fun r2 M3 hg1 hf => ?_)
  refine mt_goi (mt_runV (i := 133) (As := []) (rest := []) ⟨hx, hb, hml, hown, hts⟩ hI hH (c_X8_penceOfMonth l E M u _ _ hg1) (cwV 0 hts gX11_month_X8_penceOfMonth rfl rfl rfl (by decide +kernel) ⟨Nat.le_of_ble_eq_true rfl, Nat.le_of_ble_eq_true rfl⟩) mt_T133 rfl rfl hl.1 rfl (Nat.le_of_ble_eq_true rfl) dX11_month_4 ⟨Nat.zero_le _, Nat.zero_le _⟩) hS (fun H locs hH hS => ?_)
  obtain ⟨i1, i2⟩ := mt_so2 hf
  subst i1
  subst i2
  exact mt_iret hx hb hr hI hH hS hlocks dX11_month_7
set_option maxHeartbeats 4000000 in
set_option maxRecDepth 100000 in
theorem c_X11_swap (l : Launch) (E : mt_E)  (M : mt_M) (u : mt_U) (r : Int32) (M' : mt_M) (hf : f_X11_swap M = some (r, M')) : Met l yX11_swap wsX11_swap ({ frames := 6, cells := 0, slots := 0, locals := 135 } : Room) (mt_P E [.ref (E.2.1 0)] M u) (mt_Qi E r M' u) 0 0 (mt_A E) := by
  refine Met.ofW (cc := cX11_swap) (maxL := 1) (ret := (some .int)) (by decide) rfl ?_
  intro p e s mid args below meth c0 s₁ B hml hv
  obtain ⟨rfl, hI, hH⟩ := hv
  have hx := B.exec
  have hb := B.bytes
  have hr := B.returns
  have hts := atoms_spec (ws := wsX11_swap) B.pre
  have hown : s.vm.findClass RX11 = some mid.cls := findClass_of_methodNamed B.named
  have hlocks := B.notSynchronized
  have hS : va_S (mt_A E) s.heap s.heap [] := va_S.rf
  have hl := lv_entry ([.ref (E.2.1 0)]) (n := 1) (Nat.le_of_ble_eq_true rfl)
  rw [lg_entry_eq]
  generalize (lg_sl ([.ref (E.2.1 0)]) ++ List.replicate (1 - (lg_sl ([.ref (E.2.1 0)])).length) Slot.unset).toArray = ls at hl ⊢
  have hl : lv_has ls 1 [(0, .ref (E.2.1 0))] := hl
  unfold f_X11_swap at hf
  have kw0 := hts (.fieldLink RX11 61 "MilkTwice" "mind" "LMilkTwice$Mind;") (List.mem_of_getElem? (i := 1) rfl)
  have hinX11 : ∀ w ∈ u_ws RX11 TX11 10, w ∈ wsX11_swap := fun w h => List.mem_cons_of_mem _ (List.mem_append_left _ (List.mem_append_left _ (List.mem_append_left _ (List.mem_append_right _ h))))
  refine lv_aload_n hx hb dX11_swap_0 rfl (lv_at hl 0 rfl) ?_
  refine mt_getr (C := RX11) (T := TX11) (N := 10) hx hb hts hinX11 hown hI hH mt_T0 rfl 5 (by decide) kw0 rfl rfl dX11_swap_1 ?_
  refine mt_b2I hf (fun r2 M3 hg1 hf => ?_)
  refine mt_goi (mt_runV (i := 133) (As := []) (rest := []) ⟨hx, hb, hml, hown, hts⟩ hI hH (c_X8_bestSwap l E M u _ _ hg1) (cwV 0 hts gX11_swap_X8_bestSwap rfl rfl rfl (by decide +kernel) ⟨Nat.le_of_ble_eq_true rfl, Nat.le_of_ble_eq_true rfl⟩) mt_T133 rfl rfl hl.1 rfl (Nat.le_of_ble_eq_true rfl) dX11_swap_4 ⟨Nat.zero_le _, Nat.zero_le _⟩) hS (fun H locs hH hS => ?_)
  obtain ⟨i1, i2⟩ := mt_so2 hf
  subst i1
  subst i2
  exact mt_iret hx hb hr hI hH hS hlocks dX11_swap_7
set_option maxHeartbeats 4000000 in
set_option maxRecDepth 100000 in
theorem c_X11_lots (l : Launch) (E : mt_E) (a1 : Int32) (a2 : Int32) (a3 : Int32) (M : mt_M) (u : mt_U) (r : Int32) (M' : mt_M) (hf : f_X11_lots a1 a2 a3 M = some (r, M')) : Met l yX11_lots wsX11_lots ({ frames := 4, cells := 0, slots := 0, locals := 97 } : Room) (mt_P E [.ref (E.2.1 0), .int a1, .int a2, .int a3] M u) (mt_Qi E r M' u) 0 0 (mt_A E) := by
  refine Met.ofW (cc := cX11_lots) (maxL := 5) (ret := (some .int)) (by decide) rfl ?_
  intro p e s mid args below meth c0 s₁ B hml hv
  obtain ⟨rfl, hI, hH⟩ := hv
  have hx := B.exec
  have hb := B.bytes
  have hr := B.returns
  have hts := atoms_spec (ws := wsX11_lots) B.pre
  have hown : s.vm.findClass RX11 = some mid.cls := findClass_of_methodNamed B.named
  have hlocks := B.notSynchronized
  have hS : va_S (mt_A E) s.heap s.heap [] := va_S.rf
  have hl := lv_entry ([.ref (E.2.1 0), .int a1, .int a2, .int a3]) (n := 5) (Nat.le_of_ble_eq_true rfl)
  rw [lg_entry_eq]
  generalize (lg_sl ([.ref (E.2.1 0), .int a1, .int a2, .int a3]) ++ List.replicate (5 - (lg_sl ([.ref (E.2.1 0), .int a1, .int a2, .int a3])).length) Slot.unset).toArray = ls at hl ⊢
  have hl : lv_has ls 5 [(0, .ref (E.2.1 0)), (1, .int a1), (2, .int a2), (3, .int a3)] := hl
  unfold f_X11_lots at hf
  have kw0 := hts (.fieldLink RX11 61 "MilkTwice" "mind" "LMilkTwice$Mind;") (List.mem_of_getElem? (i := 1) rfl)
  have hinX11 : ∀ w ∈ u_ws RX11 TX11 10, w ∈ wsX11_lots := fun w h => List.mem_cons_of_mem _ (List.mem_append_left _ (List.mem_append_left _ (List.mem_append_left _ (List.mem_append_right _ h))))
  refine lv_iload_n hx hb dX11_lots_0 rfl (lv_at hl 1 rfl) ?_
  refine lv_iconst (v := 1) hx hb dX11_lots_1 (by decide) ?_
  refine lv_bipush (v := 20) hx hb dX11_lots_2 (by decide) ?_
  refine mt_b1I hf (fun r2 hg1 hf => ?_)
  refine mt_goi (mt_runS (As := [.int a1, .int (1 : Int32), .int (20 : Int32)]) (rest := []) ⟨hx, hb, hml, hown, hts⟩ hI hH (c_X11_outside l E a1 (1 : Int32) (20 : Int32) M u _ hg1) (va_cwS 3 hts gX11_lots_X11_outside rfl rfl rfl (by decide +kernel) ⟨Nat.le_of_ble_eq_true rfl, Nat.le_of_ble_eq_true rfl⟩) rfl hl.1 rfl (Nat.le_of_ble_eq_true rfl) dX11_lots_4 ⟨Nat.zero_le _, Nat.zero_le _⟩) hS (fun H locs hH hS => ?_)
  refine lv_iload_n hx hb dX11_lots_7 rfl (lv_at hl 3 rfl) ?_
  refine lv_iconst (v := 1) hx hb dX11_lots_8 (by decide) ?_
  refine mt_b1I hf (fun r4 hg3 hf => ?_)
  refine mt_goi (mt_runS (As := [.int a3, .int (1 : Int32)]) (rest := [.int r2]) ⟨hx, hb, hml, hown, hts⟩ hI hH (c_X11_isOneOf l E a3 (1 : Int32) M u _ hg3) (va_cwS 2 hts gX11_lots_X11_isOneOf rfl rfl rfl (by decide +kernel) ⟨Nat.le_of_ble_eq_true rfl, Nat.le_of_ble_eq_true rfl⟩) rfl hl.1 rfl (Nat.le_of_ble_eq_true rfl) dX11_lots_9 ⟨Nat.zero_le _, Nat.zero_le _⟩) hS (fun H locs hH hS => ?_)
  refine lv_bipush (v := (-2)) hx hb dX11_lots_12 (by decide) ?_
  refine mt_b1I hf (fun r6 hg5 hf => ?_)
  refine mt_goi (mt_runS (As := [.int r2, .int r4, .int (-2 : Int32)]) (rest := []) ⟨hx, hb, hml, hown, hts⟩ hI hH (c_X11_firstOf l E r2 r4 (-2 : Int32) M u _ hg5) (va_cwS 3 hts gX11_lots_X11_firstOf rfl rfl rfl (by decide +kernel) ⟨Nat.le_of_ble_eq_true rfl, Nat.le_of_ble_eq_true rfl⟩) rfl hl.1 rfl (Nat.le_of_ble_eq_true rfl) dX11_lots_14 ⟨Nat.zero_le _, Nat.zero_le _⟩) hS (fun H locs hH hS => ?_)
  refine lv_istore (lv' := [(4, .int r6), (0, .ref (E.2.1 0)), (1, .int a1), (2, .int a2), (3, .int a3)]) hx hb dX11_lots_17 hl (by decide) rfl (fun ls hl => ?_)
  refine lv_iload hx hb dX11_lots_19 (lv_at hl 0 rfl) ?_
  refine lv_if_eq (tgt := 33) hx hb dX11_lots_21 (by decide) (fun c7 => ?_) (fun c7 => ?_)
  · have hf := mt_ifT c7 hf
    refine lv_aload_n hx hb dX11_lots_33 rfl (lv_at hl 1 rfl) ?_
    refine mt_getr (C := RX11) (T := TX11) (N := 10) hx hb hts hinX11 hown hI hH mt_T0 rfl 5 (by decide) kw0 rfl rfl dX11_lots_34 ?_
    refine lv_iload_n hx hb dX11_lots_37 rfl (lv_at hl 2 rfl) ?_
    refine lv_iload_n hx hb dX11_lots_38 rfl (lv_at hl 3 rfl) ?_
    refine lv_iload_n hx hb dX11_lots_39 rfl (lv_at hl 4 rfl) ?_
    refine mt_b2I hf (fun r9 M10 hg8 hf => ?_)
    refine mt_goi (mt_runV (i := 133) (As := [.int a1, .int a2, .int a3]) (rest := []) ⟨hx, hb, hml, hown, hts⟩ hI hH (c_X8_weeksByLot l E a1 a2 a3 M u _ _ hg8) (cwV 3 hts gX11_lots_X8_weeksByLot rfl rfl rfl (by decide +kernel) ⟨Nat.le_of_ble_eq_true rfl, Nat.le_of_ble_eq_true rfl⟩) mt_T133 rfl rfl hl.1 rfl (Nat.le_of_ble_eq_true rfl) dX11_lots_40 ⟨Nat.zero_le _, Nat.zero_le _⟩) hS (fun H locs hH hS => ?_)
    obtain ⟨i1, i2⟩ := mt_so2 hf
    subst i1
    subst i2
    exact mt_iret hx hb hr hI hH hS hlocks dX11_lots_43
  · have hf := mt_ifF c7 hf
    refine lv_aload_n hx hb dX11_lots_24 rfl (lv_at hl 1 rfl) ?_
    refine lv_iload hx hb dX11_lots_25 (lv_at hl 0 rfl) ?_
    refine mt_b2I hf (fun r12 M13 hg11 hf => ?_)
    refine mt_goi (mt_runV (i := 0) (As := [.int r6]) (rest := []) ⟨hx, hb, hml, hown, hts⟩ hI hH (c_X11_refuse l E r6 M u _ _ hg11) (cwV 1 hts gX11_lots_X11_refuse rfl rfl rfl (by decide +kernel) ⟨Nat.le_of_ble_eq_true rfl, Nat.le_of_ble_eq_true rfl⟩) mt_T0 rfl rfl hl.1 rfl (Nat.le_of_ble_eq_true rfl) dX11_lots_27 ⟨Nat.zero_le _, Nat.zero_le _⟩) hS (fun H locs hH hS => ?_)
    refine lv_goto (tgt := 43) hx hb dX11_lots_30 (by decide) ?_
    obtain ⟨i1, i2⟩ := mt_so2 hf
    subst i1
    subst i2
    exact mt_iret hx hb hr hI hH hS hlocks dX11_lots_43
set_option maxHeartbeats 4000000 in
set_option maxRecDepth 100000 in
theorem c_X11_worth (l : Launch) (E : mt_E)  (M : mt_M) (u : mt_U) (r : Int32) (hf : f_X11_worth M = some (r)) : Met l yX11_worth wsX11_worth ({ frames := 4, cells := 0, slots := 0, locals := 87 } : Room) (mt_P E [.ref (E.2.1 0)] M u) (mt_Qi E r M u) 0 0 (mt_A E) := by
  refine Met.ofW (cc := cX11_worth) (maxL := 1) (ret := (some .int)) (by decide) rfl ?_
  intro p e s mid args below meth c0 s₁ B hml hv
  obtain ⟨rfl, hI, hH⟩ := hv
  have hx := B.exec
  have hb := B.bytes
  have hr := B.returns
  have hts := atoms_spec (ws := wsX11_worth) B.pre
  have hown : s.vm.findClass RX11 = some mid.cls := findClass_of_methodNamed B.named
  have hlocks := B.notSynchronized
  have hS : va_S (mt_A E) s.heap s.heap [] := va_S.rf
  have hl := lv_entry ([.ref (E.2.1 0)]) (n := 1) (Nat.le_of_ble_eq_true rfl)
  rw [lg_entry_eq]
  generalize (lg_sl ([.ref (E.2.1 0)]) ++ List.replicate (1 - (lg_sl ([.ref (E.2.1 0)])).length) Slot.unset).toArray = ls at hl ⊢
  have hl : lv_has ls 1 [(0, .ref (E.2.1 0))] := hl
  unfold f_X11_worth at hf
  have kw0 := hts (.fieldLink RX11 39 "MilkTwice" "house" "LMilkTwice$House;") (List.mem_of_getElem? (i := 1) rfl)
  have hinX11 : ∀ w ∈ u_ws RX11 TX11 10, w ∈ wsX11_worth := fun w h => List.mem_cons_of_mem _ (List.mem_append_left _ (List.mem_append_left _ (List.mem_append_right _ h)))
  have hinX4 : ∀ w ∈ u_ws RX4 TX4 6, w ∈ wsX11_worth := fun w h => List.mem_cons_of_mem _ (List.mem_append_left _ (List.mem_append_right _ h))
  refine lv_aload_n hx hb dX11_worth_0 rfl (lv_at hl 0 rfl) ?_
  refine mt_getr (C := RX11) (T := TX11) (N := 10) hx hb hts hinX11 hown hI hH mt_T0 rfl 0 (by decide) kw0 rfl rfl dX11_worth_1 ?_
  refine mt_getrN (C := RX4) (T := TX4) (N := 6) hx hb hts hinX4 hown hI hH mt_T10 rfl 0 (by decide) (List.mem_of_getElem? (i := 10) rfl) rfl rfl dX11_worth_4 ?_
  refine mt_b1I hf (fun r2 hg1 hf => ?_)
  refine mt_goi (mt_runV (i := 13) (As := []) (rest := []) ⟨hx, hb, hml, hown, hts⟩ hI hH (c_X0_worthOfAll l E 13 (by decide) M u _ hg1) (cwV 0 hts gX11_worth_X0_worthOfAll rfl rfl rfl (by decide +kernel) ⟨Nat.le_of_ble_eq_true rfl, Nat.le_of_ble_eq_true rfl⟩) mt_T13 rfl rfl hl.1 rfl (Nat.le_of_ble_eq_true rfl) dX11_worth_7 ⟨Nat.zero_le _, Nat.zero_le _⟩) hS (fun H locs hH hS => ?_)
  have i1 := mt_so1 hf
  subst i1
  exact mt_iret hx hb hr hI hH hS hlocks dX11_worth_10
set_option maxHeartbeats 4000000 in
set_option maxRecDepth 100000 in
theorem c_X11_weekly (l : Launch) (E : mt_E)  (M : mt_M) (u : mt_U) (r : Int32) (hf : f_X11_weekly M = some (r)) : Met l yX11_weekly wsX11_weekly ({ frames := 4, cells := 0, slots := 0, locals := 88 } : Room) (mt_P E [.ref (E.2.1 0)] M u) (mt_Qi E r M u) 0 0 (mt_A E) := by
  refine Met.ofW (cc := cX11_weekly) (maxL := 1) (ret := (some .int)) (by decide) rfl ?_
  intro p e s mid args below meth c0 s₁ B hml hv
  obtain ⟨rfl, hI, hH⟩ := hv
  have hx := B.exec
  have hb := B.bytes
  have hr := B.returns
  have hts := atoms_spec (ws := wsX11_weekly) B.pre
  have hown : s.vm.findClass RX11 = some mid.cls := findClass_of_methodNamed B.named
  have hlocks := B.notSynchronized
  have hS : va_S (mt_A E) s.heap s.heap [] := va_S.rf
  have hl := lv_entry ([.ref (E.2.1 0)]) (n := 1) (Nat.le_of_ble_eq_true rfl)
  rw [lg_entry_eq]
  generalize (lg_sl ([.ref (E.2.1 0)]) ++ List.replicate (1 - (lg_sl ([.ref (E.2.1 0)])).length) Slot.unset).toArray = ls at hl ⊢
  have hl : lv_has ls 1 [(0, .ref (E.2.1 0))] := hl
  unfold f_X11_weekly at hf
  have kw0 := hts (.fieldLink RX11 39 "MilkTwice" "house" "LMilkTwice$House;") (List.mem_of_getElem? (i := 1) rfl)
  have hinX11 : ∀ w ∈ u_ws RX11 TX11 10, w ∈ wsX11_weekly := fun w h => List.mem_cons_of_mem _ (List.mem_append_left _ (List.mem_append_left _ (List.mem_append_right _ h)))
  have hinX4 : ∀ w ∈ u_ws RX4 TX4 6, w ∈ wsX11_weekly := fun w h => List.mem_cons_of_mem _ (List.mem_append_left _ (List.mem_append_right _ h))
  refine lv_aload_n hx hb dX11_weekly_0 rfl (lv_at hl 0 rfl) ?_
  refine mt_getr (C := RX11) (T := TX11) (N := 10) hx hb hts hinX11 hown hI hH mt_T0 rfl 0 (by decide) kw0 rfl rfl dX11_weekly_1 ?_
  refine mt_getrN (C := RX4) (T := TX4) (N := 6) hx hb hts hinX4 hown hI hH mt_T10 rfl 0 (by decide) (List.mem_of_getElem? (i := 10) rfl) rfl rfl dX11_weekly_4 ?_
  refine mt_b1I hf (fun r2 hg1 hf => ?_)
  refine mt_goi (mt_runV (i := 13) (As := []) (rest := []) ⟨hx, hb, hml, hown, hts⟩ hI hH (c_X0_penceOfWeek l E 13 (by decide) M u _ hg1) (cwV 0 hts gX11_weekly_X0_penceOfWeek rfl rfl rfl (by decide +kernel) ⟨Nat.le_of_ble_eq_true rfl, Nat.le_of_ble_eq_true rfl⟩) mt_T13 rfl rfl hl.1 rfl (Nat.le_of_ble_eq_true rfl) dX11_weekly_7 ⟨Nat.zero_le _, Nat.zero_le _⟩) hS (fun H locs hH hS => ?_)
  have i1 := mt_so1 hf
  subst i1
  exact mt_iret hx hb hr hI hH hS hlocks dX11_weekly_10
set_option maxHeartbeats 4000000 in
set_option maxRecDepth 100000 in
theorem c_X11_alike (l : Launch) (E : mt_E) (a1 : Int32) (M : mt_M) (u : mt_U) (r : Int32) (M' : mt_M) (hf : f_X11_alike a1 M = some (r, M')) : Met l yX11_alike wsX11_alike ({ frames := 3, cells := 0, slots := 0, locals := 66 } : Room) (mt_P E [.ref (E.2.1 0), .int a1] M u) (mt_Qi E r M' u) 0 0 (mt_A E) := by
  refine Met.ofW (cc := cX11_alike) (maxL := 2) (ret := (some .int)) (by decide) rfl ?_
  intro p e s mid args below meth c0 s₁ B hml hv
  obtain ⟨rfl, hI, hH⟩ := hv
  have hx := B.exec
  have hb := B.bytes
  have hr := B.returns
  have hts := atoms_spec (ws := wsX11_alike) B.pre
  have hown : s.vm.findClass RX11 = some mid.cls := findClass_of_methodNamed B.named
  have hlocks := B.notSynchronized
  have hS : va_S (mt_A E) s.heap s.heap [] := va_S.rf
  have hl := lv_entry ([.ref (E.2.1 0), .int a1]) (n := 2) (Nat.le_of_ble_eq_true rfl)
  rw [lg_entry_eq]
  generalize (lg_sl ([.ref (E.2.1 0), .int a1]) ++ List.replicate (2 - (lg_sl ([.ref (E.2.1 0), .int a1])).length) Slot.unset).toArray = ls at hl ⊢
  have hl : lv_has ls 2 [(0, .ref (E.2.1 0)), (1, .int a1)] := hl
  unfold f_X11_alike at hf
  have kw0 := hts (.fieldLink RX11 39 "MilkTwice" "house" "LMilkTwice$House;") (List.mem_of_getElem? (i := 1) rfl)
  have hinX11 : ∀ w ∈ u_ws RX11 TX11 10, w ∈ wsX11_alike := fun w h => List.mem_cons_of_mem _ (List.mem_append_left _ (List.mem_append_left _ (List.mem_append_right _ h)))
  have hinX4 : ∀ w ∈ u_ws RX4 TX4 6, w ∈ wsX11_alike := fun w h => List.mem_cons_of_mem _ (List.mem_append_left _ (List.mem_append_right _ h))
  refine lv_iload_n hx hb dX11_alike_0 rfl (lv_at hl 1 rfl) ?_
  refine lv_iconst (v := 1) hx hb dX11_alike_1 (by decide) ?_
  refine mt_b1I hf (fun r2 hg1 hf => ?_)
  refine mt_goi (mt_runS (As := [.int a1, .int (1 : Int32)]) (rest := []) ⟨hx, hb, hml, hown, hts⟩ hI hH (c_X11_isOneOf l E a1 (1 : Int32) M u _ hg1) (va_cwS 2 hts gX11_alike_X11_isOneOf rfl rfl rfl (by decide +kernel) ⟨Nat.le_of_ble_eq_true rfl, Nat.le_of_ble_eq_true rfl⟩) rfl hl.1 rfl (Nat.le_of_ble_eq_true rfl) dX11_alike_2 ⟨Nat.zero_le _, Nat.zero_le _⟩) hS (fun H locs hH hS => ?_)
  refine lv_if_ne (tgt := 15) hx hb dX11_alike_5 (by decide) (fun c3 => ?_) (fun c3 => ?_)
  · have hf := mt_ifF c3 hf
    refine lv_iload_n hx hb dX11_alike_15 rfl (lv_at hl 1 rfl) ?_
    refine lv_if_ne (tgt := 32) hx hb dX11_alike_16 (by decide) (fun c4 => ?_) (fun c4 => ?_)
    · have hf := mt_ifF c4 hf
      refine lv_aload_n hx hb dX11_alike_32 rfl (lv_at hl 0 rfl) ?_
      refine mt_getr (C := RX11) (T := TX11) (N := 10) hx hb hts hinX11 hown hI hH mt_T0 rfl 0 (by decide) kw0 rfl rfl dX11_alike_33 ?_
      refine mt_getrN (C := RX4) (T := TX4) (N := 6) hx hb hts hinX4 hown hI hH mt_T10 rfl 0 (by decide) (List.mem_of_getElem? (i := 10) rfl) rfl rfl dX11_alike_36 ?_
      refine mt_b2I hf (fun r6 M7 hg5 hf => ?_)
      refine mt_goi (mt_runV (i := 13) (As := []) (rest := []) ⟨hx, hb, hml, hown, hts⟩ hI hH (c_X0_alikeLinks l E 13 (by decide) M u _ _ hg5) (cwV 0 hts gX11_alike_X0_alikeLinks rfl rfl rfl (by decide +kernel) ⟨Nat.le_of_ble_eq_true rfl, Nat.le_of_ble_eq_true rfl⟩) mt_T13 rfl rfl hl.1 rfl (Nat.le_of_ble_eq_true rfl) dX11_alike_39 ⟨Nat.zero_le _, Nat.zero_le _⟩) hS (fun H locs hH hS => ?_)
      obtain ⟨i1, i2⟩ := mt_so2 hf
      subst i1
      subst i2
      exact mt_iret hx hb hr hI hH hS hlocks dX11_alike_42
    · have hf := mt_ifT c4 hf
      refine lv_aload_n hx hb dX11_alike_19 rfl (lv_at hl 0 rfl) ?_
      refine mt_getr (C := RX11) (T := TX11) (N := 10) hx hb hts hinX11 hown hI hH mt_T0 rfl 0 (by decide) kw0 rfl rfl dX11_alike_20 ?_
      refine mt_getrN (C := RX4) (T := TX4) (N := 6) hx hb hts hinX4 hown hI hH mt_T10 rfl 0 (by decide) (List.mem_of_getElem? (i := 10) rfl) rfl rfl dX11_alike_23 ?_
      refine mt_b1I hf (fun r9 hg8 hf => ?_)
      refine mt_goi (mt_runV (i := 13) (As := []) (rest := []) ⟨hx, hb, hml, hown, hts⟩ hI hH (c_X0_alikeTwos l E 13 (by decide) M u _ hg8) (cwV 0 hts gX11_alike_X0_alikeTwos rfl rfl rfl (by decide +kernel) ⟨Nat.le_of_ble_eq_true rfl, Nat.le_of_ble_eq_true rfl⟩) mt_T13 rfl rfl hl.1 rfl (Nat.le_of_ble_eq_true rfl) dX11_alike_26 ⟨Nat.zero_le _, Nat.zero_le _⟩) hS (fun H locs hH hS => ?_)
      refine lv_goto (tgt := 42) hx hb dX11_alike_29 (by decide) ?_
      obtain ⟨i1, i2⟩ := mt_so2 hf
      subst i1
      subst i2
      exact mt_iret hx hb hr hI hH hS hlocks dX11_alike_42
  · have hf := mt_ifT c3 hf
    refine lv_aload_n hx hb dX11_alike_8 rfl (lv_at hl 0 rfl) ?_
    refine lv_bipush (v := (-2)) hx hb dX11_alike_9 (by decide) ?_
    refine mt_b2I hf (fun r11 M12 hg10 hf => ?_)
    refine mt_goi (mt_runV (i := 0) (As := [.int (-2 : Int32)]) (rest := []) ⟨hx, hb, hml, hown, hts⟩ hI hH (c_X11_refuse l E (-2 : Int32) M u _ _ hg10) (cwV 1 hts gX11_alike_X11_refuse rfl rfl rfl (by decide +kernel) ⟨Nat.le_of_ble_eq_true rfl, Nat.le_of_ble_eq_true rfl⟩) mt_T0 rfl rfl hl.1 rfl (Nat.le_of_ble_eq_true rfl) dX11_alike_11 ⟨Nat.zero_le _, Nat.zero_le _⟩) hS (fun H locs hH hS => ?_)
    obtain ⟨i1, i2⟩ := mt_so2 hf
    subst i1
    subst i2
    exact mt_iret hx hb hr hI hH hS hlocks dX11_alike_14
set_option maxHeartbeats 4000000 in
set_option maxRecDepth 100000 in
theorem c_X11_meanHarm (l : Launch) (E : mt_E) (a1 : Int32) (a2 : Int32) (a3 : Int32) (a4 : Int32) (M : mt_M) (u : mt_U) (r : Int32) (hf : f_X11_meanHarm a1 a2 a3 a4 M = some (r)) : Met l yX11_meanHarm wsX11_meanHarm ({ frames := 3, cells := 0, slots := 0, locals := 64 } : Room) (mt_P E [.ref (E.2.1 0), .int a1, .int a2, .int a3, .int a4] M u) (mt_Qi E r M u) 0 0 (mt_A E) := by
  refine Met.ofW (cc := cX11_meanHarm) (maxL := 7) (ret := (some .int)) (by decide) rfl ?_
  intro p e s mid args below meth c0 s₁ B hml hv
  obtain ⟨rfl, hI, hH⟩ := hv
  have hx := B.exec
  have hb := B.bytes
  have hr := B.returns
  have hts := atoms_spec (ws := wsX11_meanHarm) B.pre
  have hown : s.vm.findClass RX11 = some mid.cls := findClass_of_methodNamed B.named
  have hlocks := B.notSynchronized
  have hS : va_S (mt_A E) s.heap s.heap [] := va_S.rf
  have hl := lv_entry ([.ref (E.2.1 0), .int a1, .int a2, .int a3, .int a4]) (n := 7) (Nat.le_of_ble_eq_true rfl)
  rw [lg_entry_eq]
  generalize (lg_sl ([.ref (E.2.1 0), .int a1, .int a2, .int a3, .int a4]) ++ List.replicate (7 - (lg_sl ([.ref (E.2.1 0), .int a1, .int a2, .int a3, .int a4])).length) Slot.unset).toArray = ls at hl ⊢
  have hl : lv_has ls 7 [(0, .ref (E.2.1 0)), (1, .int a1), (2, .int a2), (3, .int a3), (4, .int a4)] := hl
  unfold f_X11_meanHarm at hf
  have kw0 := hts (.fieldLink RX11 39 "MilkTwice" "house" "LMilkTwice$House;") (List.mem_of_getElem? (i := 1) rfl)
  have hinX11 : ∀ w ∈ u_ws RX11 TX11 10, w ∈ wsX11_meanHarm := fun w h => List.mem_cons_of_mem _ (List.mem_append_left _ (List.mem_append_left _ (List.mem_append_right _ h)))
  have hinX4 : ∀ w ∈ u_ws RX4 TX4 6, w ∈ wsX11_meanHarm := fun w h => List.mem_cons_of_mem _ (List.mem_append_left _ (List.mem_append_right _ h))
  refine lv_iload hx hb dX11_meanHarm_0 (lv_at hl 4 rfl) ?_
  refine lv_iconst (v := 1) hx hb dX11_meanHarm_2 (by decide) ?_
  refine mt_jn1 hf (fun (v1 : Int32) => ∀ (H : Heap) (locs : List Loc) (ls : Array Slot), mt_H E M u H → va_S (mt_A E) s.heap H locs → lv_has ls 7 [(0, .ref (E.2.1 0)), (1, .int a1), (3, .int a3), (4, .int a4)] → W p l e (headSpec wsX11_meanHarm ({ frames := 3, cells := 0, slots := 0, locals := 64 } : Room)).room s mid (([.ref (E.2.1 0), .int a1, .int a2, .int a3, .int a4] : List Value).toArray) below meth c0 H locs 0 0 (MQ below (mt_Qi E r M u) (([.ref (E.2.1 0), .int a1, .int a2, .int a3, .int a4] : List Value).toArray) s 0 0 (mt_A E)) (F0 mid 17 ls [.int v1])) ?_ ?_
  · intro v1 hf H locs ls hH hS hl
    refine lv_istore (lv' := [(5, .int v1), (0, .ref (E.2.1 0)), (1, .int a1), (3, .int a3), (4, .int a4)]) hx hb dX11_meanHarm_17 hl (by decide) rfl (fun ls hl => ?_)
    refine lv_iload hx hb dX11_meanHarm_19 (lv_at hl 4 rfl) ?_
    refine lv_iconst (v := 2) hx hb dX11_meanHarm_21 (by decide) ?_
    refine mt_jn1 hf (fun (v4 : Int32) => ∀ (H : Heap) (locs : List Loc) (ls : Array Slot), mt_H E M u H → va_S (mt_A E) s.heap H locs → lv_has ls 7 [(0, .ref (E.2.1 0)), (1, .int a1), (5, .int v1)] → W p l e (headSpec wsX11_meanHarm ({ frames := 3, cells := 0, slots := 0, locals := 64 } : Room)).room s mid (([.ref (E.2.1 0), .int a1, .int a2, .int a3, .int a4] : List Value).toArray) below meth c0 H locs 0 0 (MQ below (mt_Qi E r M u) (([.ref (E.2.1 0), .int a1, .int a2, .int a3, .int a4] : List Value).toArray) s 0 0 (mt_A E)) (F0 mid 36 ls [.int v4])) ?_ ?_
    · intro v4 hf H locs ls hH hS hl
      refine lv_istore (lv' := [(6, .int v4), (0, .ref (E.2.1 0)), (1, .int a1), (5, .int v1)]) hx hb dX11_meanHarm_36 hl (by decide) rfl (fun ls hl => ?_)
      refine lv_bipush (v := 10) hx hb dX11_meanHarm_38 (by decide) ?_
      refine lv_iload hx hb dX11_meanHarm_40 (lv_at hl 3 rfl) ?_
      refine lv_isub hx hb dX11_meanHarm_42 ?_
      refine lv_bipush (v := 10) hx hb dX11_meanHarm_43 (by decide) ?_
      refine lv_iload hx hb dX11_meanHarm_45 (lv_at hl 0 rfl) ?_
      refine lv_isub hx hb dX11_meanHarm_47 ?_
      refine lv_imul hx hb dX11_meanHarm_48 ?_
      refine lv_aload_n hx hb dX11_meanHarm_49 rfl (lv_at hl 1 rfl) ?_
      refine mt_getr (C := RX11) (T := TX11) (N := 10) hx hb hts hinX11 hown hI hH mt_T0 rfl 0 (by decide) kw0 rfl rfl dX11_meanHarm_50 ?_
      refine mt_getrN (C := RX4) (T := TX4) (N := 6) hx hb hts hinX4 hown hI hH mt_T10 rfl 0 (by decide) (List.mem_of_getElem? (i := 10) rfl) rfl rfl dX11_meanHarm_53 ?_
      refine lv_iload_n hx hb dX11_meanHarm_56 rfl (lv_at hl 2 rfl) ?_
      refine lv_iconst (v := 0) hx hb dX11_meanHarm_57 (by decide) ?_
      refine mt_b1I hf (fun r8 hg7 hf => ?_)
      refine mt_goi (mt_runV (i := 13) (As := [.int a1, .int (0 : Int32)]) (rest := [.int (((10 : Int32) - v1) * ((10 : Int32) - v4))]) ⟨hx, hb, hml, hown, hts⟩ hI hH (c_X0_harmOf l E 13 (by decide) a1 (0 : Int32) M u _ hg7) (cwV 2 hts gX11_meanHarm_X0_harmOf rfl rfl rfl (by decide +kernel) ⟨Nat.le_of_ble_eq_true rfl, Nat.le_of_ble_eq_true rfl⟩) mt_T13 rfl rfl hl.1 rfl (Nat.le_of_ble_eq_true rfl) dX11_meanHarm_58 ⟨Nat.zero_le _, Nat.zero_le _⟩) hS (fun H locs hH hS => ?_)
      refine lv_imul hx hb dX11_meanHarm_61 ?_
      refine lv_iload hx hb dX11_meanHarm_62 (lv_at hl 3 rfl) ?_
      refine lv_iload hx hb dX11_meanHarm_64 (lv_at hl 0 rfl) ?_
      refine lv_imul hx hb dX11_meanHarm_66 ?_
      refine lv_aload_n hx hb dX11_meanHarm_67 rfl (lv_at hl 1 rfl) ?_
      refine mt_getr (C := RX11) (T := TX11) (N := 10) hx hb hts hinX11 hown hI hH mt_T0 rfl 0 (by decide) kw0 rfl rfl dX11_meanHarm_68 ?_
      refine mt_getrN (C := RX4) (T := TX4) (N := 6) hx hb hts hinX4 hown hI hH mt_T10 rfl 0 (by decide) (List.mem_of_getElem? (i := 10) rfl) rfl rfl dX11_meanHarm_71 ?_
      refine lv_iload_n hx hb dX11_meanHarm_74 rfl (lv_at hl 2 rfl) ?_
      refine lv_iconst (v := 2) hx hb dX11_meanHarm_75 (by decide) ?_
      refine mt_b1I hf (fun r10 hg9 hf => ?_)
      refine mt_goi (mt_runV (i := 13) (As := [.int a1, .int (2 : Int32)]) (rest := [.int (v1 * v4), .int ((((10 : Int32) - v1) * ((10 : Int32) - v4)) * r8)]) ⟨hx, hb, hml, hown, hts⟩ hI hH (c_X0_harmOf l E 13 (by decide) a1 (2 : Int32) M u _ hg9) (cwV 2 hts gX11_meanHarm_X0_harmOf rfl rfl rfl (by decide +kernel) ⟨Nat.le_of_ble_eq_true rfl, Nat.le_of_ble_eq_true rfl⟩) mt_T13 rfl rfl hl.1 rfl (Nat.le_of_ble_eq_true rfl) dX11_meanHarm_76 ⟨Nat.zero_le _, Nat.zero_le _⟩) hS (fun H locs hH hS => ?_)
      refine lv_imul hx hb dX11_meanHarm_79 ?_
      refine lv_iadd hx hb dX11_meanHarm_80 ?_
      have i1 := mt_so1 hf
      subst i1
      exact mt_iret hx hb hr hI hH hS hlocks dX11_meanHarm_81
    · intro j5 hj6 hf
      refine mt_jn0 hf (∀ (H : Heap) (locs : List Loc) (ls : Array Slot), mt_H E M u H → va_S (mt_A E) s.heap H locs → lv_has ls 7 [(0, .ref (E.2.1 0)), (1, .int a1), (3, .int a3), (5, .int v1)] → W p l e (headSpec wsX11_meanHarm ({ frames := 3, cells := 0, slots := 0, locals := 64 } : Room)).room s mid (([.ref (E.2.1 0), .int a1, .int a2, .int a3, .int a4] : List Value).toArray) below meth c0 H locs 0 0 (MQ below (mt_Qi E r M u) (([.ref (E.2.1 0), .int a1, .int a2, .int a3, .int a4] : List Value).toArray) s 0 0 (mt_A E)) (F0 mid 31 ls [])) ?_ ?_
      · intro hf H locs ls hH hS hl
        refine lv_iload_n hx hb dX11_meanHarm_31 rfl (lv_at hl 2 rfl) ?_
        refine lv_goto (tgt := 36) hx hb dX11_meanHarm_32 (by decide) ?_
        exact hj6 a3 hf _ _ _ hH hS (lv_sub hl [0, 1, 3] rfl)
      · intro j11 hj12 hf
        refine lv_icmp_eq (tgt := 31) hx hb dX11_meanHarm_22 (by decide) (fun c13 => ?_) (fun c13 => ?_)
        · have hf := mt_ifT c13 hf
          exact hj12 hf _ _ _ hH hS (lv_sub hl [1, 2, 3, 0] rfl)
        · have hf := mt_ifF c13 hf
          refine lv_iload hx hb dX11_meanHarm_25 (lv_at hl 4 rfl) ?_
          refine lv_iconst (v := 3) hx hb dX11_meanHarm_27 (by decide) ?_
          refine lv_icmp_ne (tgt := 35) hx hb dX11_meanHarm_28 (by decide) (fun c14 => ?_) (fun c14 => ?_)
          · have hf := mt_ifF c14 hf
            refine lv_iconst (v := 0) hx hb dX11_meanHarm_35 (by decide) ?_
            exact hj6 (0 : Int32) hf _ _ _ hH hS (lv_sub hl [1, 2, 0] rfl)
          · have hf := mt_ifT c14 hf
            exact hj12 hf _ _ _ hH hS (lv_sub hl [1, 2, 3, 0] rfl)
  · intro j2 hj3 hf
    refine mt_jn0 hf (∀ (H : Heap) (locs : List Loc) (ls : Array Slot), mt_H E M u H → va_S (mt_A E) s.heap H locs → lv_has ls 7 [(0, .ref (E.2.1 0)), (1, .int a1), (2, .int a2), (3, .int a3), (4, .int a4)] → W p l e (headSpec wsX11_meanHarm ({ frames := 3, cells := 0, slots := 0, locals := 64 } : Room)).room s mid (([.ref (E.2.1 0), .int a1, .int a2, .int a3, .int a4] : List Value).toArray) below meth c0 H locs 0 0 (MQ below (mt_Qi E r M u) (([.ref (E.2.1 0), .int a1, .int a2, .int a3, .int a4] : List Value).toArray) s 0 0 (mt_A E)) (F0 mid 12 ls [])) ?_ ?_
    · intro hf H locs ls hH hS hl
      refine lv_iload_n hx hb dX11_meanHarm_12 rfl (lv_at hl 2 rfl) ?_
      refine lv_goto (tgt := 17) hx hb dX11_meanHarm_13 (by decide) ?_
      exact hj3 a2 hf _ _ _ hH hS (lv_sub hl [0, 1, 3, 4] rfl)
    · intro j15 hj16 hf
      refine lv_icmp_eq (tgt := 12) hx hb dX11_meanHarm_3 (by decide) (fun c17 => ?_) (fun c17 => ?_)
      · have hf := mt_ifT c17 hf
        exact hj16 hf _ _ _ hH hS (lv_sub hl [0, 1, 2, 3, 4] rfl)
      · have hf := mt_ifF c17 hf
        refine lv_iload hx hb dX11_meanHarm_6 (lv_at hl 4 rfl) ?_
        refine lv_iconst (v := 3) hx hb dX11_meanHarm_8 (by decide) ?_
        refine lv_icmp_ne (tgt := 16) hx hb dX11_meanHarm_9 (by decide) (fun c18 => ?_) (fun c18 => ?_)
        · have hf := mt_ifF c18 hf
          refine lv_iconst (v := 0) hx hb dX11_meanHarm_16 (by decide) ?_
          exact hj3 (0 : Int32) hf _ _ _ hH hS (lv_sub hl [0, 1, 3, 4] rfl)
        · have hf := mt_ifT c18 hf
          exact hj16 hf _ _ _ hH hS (lv_sub hl [0, 1, 2, 3, 4] rfl)
set_option maxHeartbeats 4000000 in
set_option maxRecDepth 100000 in
theorem c_X11_unheard (l : Launch) (E : mt_E) (a1 : Int32) (a2 : Int32) (a3 : Int32) (a4 : Int32) (M : mt_M) (u : mt_U) (r : Int32) (M' : mt_M) (hf : f_X11_unheard a1 a2 a3 a4 M = some (r, M')) : Met l yX11_unheard wsX11_unheard ({ frames := 4, cells := 0, slots := 0, locals := 90 } : Room) (mt_P E [.ref (E.2.1 0), .int a1, .int a2, .int a3, .int a4] M u) (mt_Qi E r M' u) 0 0 (mt_A E) := by
  refine Met.ofW (cc := cX11_unheard) (maxL := 8) (ret := (some .int)) (by decide) rfl ?_
  intro p e s mid args below meth c0 s₁ B hml hv
  obtain ⟨rfl, hI, hH⟩ := hv
  have hx := B.exec
  have hb := B.bytes
  have hr := B.returns
  have hts := atoms_spec (ws := wsX11_unheard) B.pre
  have hown : s.vm.findClass RX11 = some mid.cls := findClass_of_methodNamed B.named
  have hlocks := B.notSynchronized
  have hS : va_S (mt_A E) s.heap s.heap [] := va_S.rf
  have hl := lv_entry ([.ref (E.2.1 0), .int a1, .int a2, .int a3, .int a4]) (n := 8) (Nat.le_of_ble_eq_true rfl)
  rw [lg_entry_eq]
  generalize (lg_sl ([.ref (E.2.1 0), .int a1, .int a2, .int a3, .int a4]) ++ List.replicate (8 - (lg_sl ([.ref (E.2.1 0), .int a1, .int a2, .int a3, .int a4])).length) Slot.unset).toArray = ls at hl ⊢
  have hl : lv_has ls 8 [(0, .ref (E.2.1 0)), (1, .int a1), (2, .int a2), (3, .int a3), (4, .int a4)] := hl
  unfold f_X11_unheard at hf
  have kw0 := hts (.fieldLink RX11 39 "MilkTwice" "house" "LMilkTwice$House;") (List.mem_of_getElem? (i := 1) rfl)
  have hinX11 : ∀ w ∈ u_ws RX11 TX11 10, w ∈ wsX11_unheard := fun w h => List.mem_cons_of_mem _ (List.mem_append_left _ (List.mem_append_left _ (List.mem_append_right _ h)))
  have hinX4 : ∀ w ∈ u_ws RX4 TX4 6, w ∈ wsX11_unheard := fun w h => List.mem_cons_of_mem _ (List.mem_append_left _ (List.mem_append_right _ h))
  refine lv_aload_n hx hb dX11_unheard_0 rfl (lv_at hl 0 rfl) ?_
  refine mt_getr (C := RX11) (T := TX11) (N := 10) hx hb hts hinX11 hown hI hH mt_T0 rfl 0 (by decide) kw0 rfl rfl dX11_unheard_1 ?_
  refine mt_getrN (C := RX4) (T := TX4) (N := 6) hx hb hts hinX4 hown hI hH mt_T10 rfl 0 (by decide) (List.mem_of_getElem? (i := 10) rfl) rfl rfl dX11_unheard_4 ?_
  refine lv_iload_n hx hb dX11_unheard_7 rfl (lv_at hl 1 rfl) ?_
  refine mt_b1I hf (fun r2 hg1 hf => ?_)
  refine mt_goi (mt_runV (i := 13) (As := [.int a1]) (rest := []) ⟨hx, hb, hml, hown, hts⟩ hI hH (c_X0_has l E 13 (by decide) a1 M u _ hg1) (cwV 1 hts gX11_unheard_X0_has rfl rfl rfl (by decide +kernel) ⟨Nat.le_of_ble_eq_true rfl, Nat.le_of_ble_eq_true rfl⟩) mt_T13 rfl rfl hl.1 rfl (Nat.le_of_ble_eq_true rfl) dX11_unheard_8 ⟨Nat.zero_le _, Nat.zero_le _⟩) hS (fun H locs hH hS => ?_)
  refine mt_jn1 hf (fun (v3 : Int32) => ∀ (H : Heap) (locs : List Loc) (ls : Array Slot), mt_H E M u H → va_S (mt_A E) s.heap H locs → lv_has ls 8 [(0, .ref (E.2.1 0)), (1, .int a1), (2, .int a2), (3, .int a3), (4, .int a4)] → W p l e (headSpec wsX11_unheard ({ frames := 4, cells := 0, slots := 0, locals := 90 } : Room)).room s mid (([.ref (E.2.1 0), .int a1, .int a2, .int a3, .int a4] : List Value).toArray) below meth c0 H locs 0 0 (MQ below (mt_Qi E r M' u) (([.ref (E.2.1 0), .int a1, .int a2, .int a3, .int a4] : List Value).toArray) s 0 0 (mt_A E)) (F0 mid 26 ls [.int v3])) ?_ ?_
  · intro v3 hf H locs ls hH hS hl
    refine lv_istore (lv' := [(5, .int v3), (0, .ref (E.2.1 0)), (1, .int a1), (2, .int a2), (3, .int a3), (4, .int a4)]) hx hb dX11_unheard_26 hl (by decide) rfl (fun ls hl => ?_)
    refine lv_iload hx hb dX11_unheard_28 (lv_at hl 0 rfl) ?_
    refine lv_iload hx hb dX11_unheard_30 (lv_at hl 5 rfl) ?_
    refine lv_iconst (v := 4) hx hb dX11_unheard_32 (by decide) ?_
    refine mt_b1I hf (fun r7 hg6 hf => ?_)
    refine mt_goi (mt_runS (As := [.int a4, .int (4 : Int32)]) (rest := [.int v3]) ⟨hx, hb, hml, hown, hts⟩ hI hH (c_X11_isOneOf l E a4 (4 : Int32) M u _ hg6) (va_cwS 2 hts gX11_unheard_X11_isOneOf rfl rfl rfl (by decide +kernel) ⟨Nat.le_of_ble_eq_true rfl, Nat.le_of_ble_eq_true rfl⟩) rfl hl.1 rfl (Nat.le_of_ble_eq_true rfl) dX11_unheard_33 ⟨Nat.zero_le _, Nat.zero_le _⟩) hS (fun H locs hH hS => ?_)
    refine lv_bipush (v := (-2)) hx hb dX11_unheard_36 (by decide) ?_
    refine mt_b1I hf (fun r9 hg8 hf => ?_)
    refine mt_goi (mt_runS (As := [.int v3, .int r7, .int (-2 : Int32)]) (rest := []) ⟨hx, hb, hml, hown, hts⟩ hI hH (c_X11_firstOf l E v3 r7 (-2 : Int32) M u _ hg8) (va_cwS 3 hts gX11_unheard_X11_firstOf rfl rfl rfl (by decide +kernel) ⟨Nat.le_of_ble_eq_true rfl, Nat.le_of_ble_eq_true rfl⟩) rfl hl.1 rfl (Nat.le_of_ble_eq_true rfl) dX11_unheard_38 ⟨Nat.zero_le _, Nat.zero_le _⟩) hS (fun H locs hH hS => ?_)
    refine lv_istore (lv' := [(5, .int r9), (0, .ref (E.2.1 0)), (1, .int a1), (2, .int a2), (3, .int a3), (4, .int a4)]) hx hb dX11_unheard_41 hl (by decide) rfl (fun ls hl => ?_)
    refine lv_iload hx hb dX11_unheard_43 (lv_at hl 0 rfl) ?_
    refine lv_if_eq (tgt := 55) hx hb dX11_unheard_45 (by decide) (fun c10 => ?_) (fun c10 => ?_)
    · have hf := mt_ifT c10 hf
      refine lv_iload hx hb dX11_unheard_55 (lv_at hl 5 rfl) ?_
      refine lv_iconst (v := 4) hx hb dX11_unheard_57 (by decide) ?_
      refine lv_icmp_ge (tgt := 71) hx hb dX11_unheard_58 (by decide) (fun c11 => ?_) (fun c11 => ?_)
      · have hf := mt_ifT c11 hf
        refine lv_iconst (v := 0) hx hb dX11_unheard_71 (by decide) ?_
        refine lv_istore (lv' := [(6, .int (0 : Int32)), (5, .int r9), (0, .ref (E.2.1 0)), (1, .int a1), (2, .int a2), (3, .int a3), (4, .int a4)]) hx hb dX11_unheard_72 hl (by decide) rfl (fun ls hl => ?_)
        refine lv_iconst (v := 1) hx hb dX11_unheard_74 (by decide) ?_
        refine lv_istore (lv' := [(7, .int (1 : Int32)), (6, .int (0 : Int32)), (5, .int r9), (0, .ref (E.2.1 0)), (1, .int a1), (2, .int a2), (3, .int a3), (4, .int a4)]) hx hb dX11_unheard_75 hl (by decide) rfl (fun ls hl => ?_)
        refine mt_lpI2 hf (fun (x12 : Int32) (x13 : Int32) => ∀ (H : Heap) (locs : List Loc) (ls : Array Slot), mt_H E M u H → va_S (mt_A E) s.heap H locs → lv_has ls 8 [(0, .ref (E.2.1 0)), (1, .int a1), (2, .int a2), (3, .int a3), (6, .int x12), (7, .int x13)] → W p l e (headSpec wsX11_unheard ({ frames := 4, cells := 0, slots := 0, locals := 90 } : Room)).room s mid (([.ref (E.2.1 0), .int a1, .int a2, .int a3, .int a4] : List Value).toArray) below meth c0 H locs 0 0 (MQ below (mt_Qi E r M' u) (([.ref (E.2.1 0), .int a1, .int a2, .int a3, .int a4] : List Value).toArray) s 0 0 (mt_A E)) (F0 mid 77 ls [])) ?_ _ _ _ hH hS (lv_sub hl [3, 4, 5, 6, 1, 0] rfl)
        intro k14 ih15 x12 x13 hf H locs ls hH hS hl
        refine lv_iload hx hb dX11_unheard_77 (lv_at hl 5 rfl) ?_
        refine lv_iconst (v := 4) hx hb dX11_unheard_79 (by decide) ?_
        refine lv_icmp_ge (tgt := 114) hx hb dX11_unheard_80 (by decide) (fun c16 => ?_) (fun c16 => ?_)
        · have hf := mt_ifT c16 hf
          refine lv_iload hx hb dX11_unheard_114 (lv_at hl 4 rfl) ?_
          obtain ⟨i1, i2⟩ := mt_so2 hf
          subst i1
          subst i2
          exact mt_iret hx hb hr hI hH hS hlocks dX11_unheard_116
        · have hf := mt_ifF c16 hf
          refine lv_aload_n hx hb dX11_unheard_83 rfl (lv_at hl 0 rfl) ?_
          refine lv_iload_n hx hb dX11_unheard_84 rfl (lv_at hl 1 rfl) ?_
          refine lv_iload_n hx hb dX11_unheard_85 rfl (lv_at hl 2 rfl) ?_
          refine lv_iload_n hx hb dX11_unheard_86 rfl (lv_at hl 3 rfl) ?_
          refine lv_iload hx hb dX11_unheard_87 (lv_at hl 5 rfl) ?_
          refine mt_b1I hf (fun r18 hg17 hf => ?_)
          refine mt_goi (mt_runV (i := 0) (As := [.int a1, .int a2, .int a3, .int x13]) (rest := []) ⟨hx, hb, hml, hown, hts⟩ hI hH (c_X11_meanHarm l E a1 a2 a3 x13 M u _ hg17) (cwV 4 hts gX11_unheard_X11_meanHarm rfl rfl rfl (by decide +kernel) ⟨Nat.le_of_ble_eq_true rfl, Nat.le_of_ble_eq_true rfl⟩) mt_T0 rfl rfl hl.1 rfl (Nat.le_of_ble_eq_true rfl) dX11_unheard_89 ⟨Nat.zero_le _, Nat.zero_le _⟩) hS (fun H locs hH hS => ?_)
          refine lv_aload_n hx hb dX11_unheard_92 rfl (lv_at hl 0 rfl) ?_
          refine lv_iload_n hx hb dX11_unheard_93 rfl (lv_at hl 1 rfl) ?_
          refine lv_iload_n hx hb dX11_unheard_94 rfl (lv_at hl 2 rfl) ?_
          refine lv_iload_n hx hb dX11_unheard_95 rfl (lv_at hl 3 rfl) ?_
          refine lv_iload hx hb dX11_unheard_96 (lv_at hl 4 rfl) ?_
          refine mt_b1I hf (fun r20 hg19 hf => ?_)
          refine mt_goi (mt_runV (i := 0) (As := [.int a1, .int a2, .int a3, .int x12]) (rest := [.int r18]) ⟨hx, hb, hml, hown, hts⟩ hI hH (c_X11_meanHarm l E a1 a2 a3 x12 M u _ hg19) (cwV 4 hts gX11_unheard_X11_meanHarm rfl rfl rfl (by decide +kernel) ⟨Nat.le_of_ble_eq_true rfl, Nat.le_of_ble_eq_true rfl⟩) mt_T0 rfl rfl hl.1 rfl (Nat.le_of_ble_eq_true rfl) dX11_unheard_98 ⟨Nat.zero_le _, Nat.zero_le _⟩) hS (fun H locs hH hS => ?_)
          refine mt_jn1 hf (fun (x21 : Int32) => ∀ (H : Heap) (locs : List Loc) (ls : Array Slot), mt_H E M u H → va_S (mt_A E) s.heap H locs → lv_has ls 8 [(0, .ref (E.2.1 0)), (1, .int a1), (2, .int a2), (3, .int a3), (6, .int x21), (7, .int x13)] → W p l e (headSpec wsX11_unheard ({ frames := 4, cells := 0, slots := 0, locals := 90 } : Room)).room s mid (([.ref (E.2.1 0), .int a1, .int a2, .int a3, .int a4] : List Value).toArray) below meth c0 H locs 0 0 (MQ below (mt_Qi E r M' u) (([.ref (E.2.1 0), .int a1, .int a2, .int a3, .int a4] : List Value).toArray) s 0 0 (mt_A E)) (F0 mid 108 ls [])) ?_ ?_
          · intro x21 hf H locs ls hH hS hl
            refine mt_ltI hf (fun x24 ex24 hf => ?_)
            refine lv_iinc (v := x24) (lv' := [(7, .int x24), (0, .ref (E.2.1 0)), (1, .int a1), (2, .int a2), (3, .int a3), (6, .int x21)]) hx hb dX11_unheard_108 hl (k := 5) rfl (by rw [ex24]; rfl) (by decide) rfl (fun ls hl => ?_)
            refine lv_goto (tgt := 77) hx hb dX11_unheard_111 (by decide) ?_
            exact ih15 x21 x24 hf _ _ _ hH hS (lv_sub hl [1, 2, 3, 4, 5, 0] rfl)
          · intro j22 hj23 hf
            refine lv_icmp_ge (tgt := 108) hx hb dX11_unheard_101 (by decide) (fun c25 => ?_) (fun c25 => ?_)
            · have hf := mt_ifT c25 hf
              exact hj23 x12 hf _ _ _ hH hS (lv_sub hl [0, 1, 2, 3, 4, 5] rfl)
            · have hf := mt_ifF c25 hf
              refine lv_iload hx hb dX11_unheard_104 (lv_at hl 5 rfl) ?_
              refine lv_istore (lv' := [(6, .int x13), (0, .ref (E.2.1 0)), (1, .int a1), (2, .int a2), (3, .int a3), (7, .int x13)]) hx hb dX11_unheard_106 hl (by decide) rfl (fun ls hl => ?_)
              exact hj23 x13 hf _ _ _ hH hS (lv_sub hl [1, 2, 3, 4, 0, 5] rfl)
      · have hf := mt_ifF c11 hf
        refine lv_aload_n hx hb dX11_unheard_61 rfl (lv_at hl 1 rfl) ?_
        refine lv_iload_n hx hb dX11_unheard_62 rfl (lv_at hl 2 rfl) ?_
        refine lv_iload_n hx hb dX11_unheard_63 rfl (lv_at hl 3 rfl) ?_
        refine lv_iload_n hx hb dX11_unheard_64 rfl (lv_at hl 4 rfl) ?_
        refine lv_iload hx hb dX11_unheard_65 (lv_at hl 5 rfl) ?_
        refine mt_b1I hf (fun r27 hg26 hf => ?_)
        refine mt_goi (mt_runV (i := 0) (As := [.int a1, .int a2, .int a3, .int a4]) (rest := []) ⟨hx, hb, hml, hown, hts⟩ hI hH (c_X11_meanHarm l E a1 a2 a3 a4 M u _ hg26) (cwV 4 hts gX11_unheard_X11_meanHarm rfl rfl rfl (by decide +kernel) ⟨Nat.le_of_ble_eq_true rfl, Nat.le_of_ble_eq_true rfl⟩) mt_T0 rfl rfl hl.1 rfl (Nat.le_of_ble_eq_true rfl) dX11_unheard_67 ⟨Nat.zero_le _, Nat.zero_le _⟩) hS (fun H locs hH hS => ?_)
        obtain ⟨i1, i2⟩ := mt_so2 hf
        subst i1
        subst i2
        exact mt_iret hx hb hr hI hH hS hlocks dX11_unheard_70
    · have hf := mt_ifF c10 hf
      refine lv_aload_n hx hb dX11_unheard_48 rfl (lv_at hl 1 rfl) ?_
      refine lv_iload hx hb dX11_unheard_49 (lv_at hl 0 rfl) ?_
      refine mt_b2I hf (fun r29 M30 hg28 hf => ?_)
      refine mt_goi (mt_runV (i := 0) (As := [.int r9]) (rest := []) ⟨hx, hb, hml, hown, hts⟩ hI hH (c_X11_refuse l E r9 M u _ _ hg28) (cwV 1 hts gX11_unheard_X11_refuse rfl rfl rfl (by decide +kernel) ⟨Nat.le_of_ble_eq_true rfl, Nat.le_of_ble_eq_true rfl⟩) mt_T0 rfl rfl hl.1 rfl (Nat.le_of_ble_eq_true rfl) dX11_unheard_51 ⟨Nat.zero_le _, Nat.zero_le _⟩) hS (fun H locs hH hS => ?_)
      obtain ⟨i1, i2⟩ := mt_so2 hf
      subst i1
      subst i2
      exact mt_iret hx hb hr hI hH hS hlocks dX11_unheard_54
  · intro j4 hj5 hf
    refine lv_if_eq (tgt := 25) hx hb dX11_unheard_11 (by decide) (fun c31 => ?_) (fun c31 => ?_)
    · have hf := mt_ifT c31 hf
      refine lv_iconst (v := (-1)) hx hb dX11_unheard_25 (by decide) ?_
      exact hj5 (-1 : Int32) hf _ _ _ hH hS (lv_sub hl [0, 1, 2, 3, 4] rfl)
    · have hf := mt_ifF c31 hf
      refine lv_iload_n hx hb dX11_unheard_14 rfl (lv_at hl 2 rfl) ?_
      refine lv_iload_n hx hb dX11_unheard_15 rfl (lv_at hl 3 rfl) ?_
      refine lv_iconst (v := 0) hx hb dX11_unheard_16 (by decide) ?_
      refine lv_bipush (v := 10) hx hb dX11_unheard_17 (by decide) ?_
      refine mt_b1I hf (fun r33 hg32 hf => ?_)
      refine mt_goi (mt_runS (As := [.int a2, .int a3, .int (0 : Int32), .int (10 : Int32)]) (rest := []) ⟨hx, hb, hml, hown, hts⟩ hI hH (c_X11_eitherOutside l E a2 a3 (0 : Int32) (10 : Int32) M u _ hg32) (va_cwS 4 hts gX11_unheard_X11_eitherOutside rfl rfl rfl (by decide +kernel) ⟨Nat.le_of_ble_eq_true rfl, Nat.le_of_ble_eq_true rfl⟩) rfl hl.1 rfl (Nat.le_of_ble_eq_true rfl) dX11_unheard_19 ⟨Nat.zero_le _, Nat.zero_le _⟩) hS (fun H locs hH hS => ?_)
      refine lv_goto (tgt := 26) hx hb dX11_unheard_22 (by decide) ?_
      exact hj5 r33 hf _ _ _ hH hS (lv_sub hl [0, 1, 2, 3, 4] rfl)
set_option maxHeartbeats 4000000 in
set_option maxRecDepth 100000 in
theorem c_X11_harmOfPair (l : Launch) (E : mt_E) (a1 : Int32) (a2 : Int32) (M : mt_M) (u : mt_U) (r : Int32) (hf : f_X11_harmOfPair a1 a2 M = some (r)) : Met l yX11_harmOfPair wsX11_harmOfPair ({ frames := 3, cells := 0, slots := 0, locals := 64 } : Room) (mt_P E [.ref (E.2.1 0), .int a1, .int a2] M u) (mt_Qi E r M u) 0 0 (mt_A E) := by
  refine Met.ofW (cc := cX11_harmOfPair) (maxL := 3) (ret := (some .int)) (by decide) rfl ?_
  intro p e s mid args below meth c0 s₁ B hml hv
  obtain ⟨rfl, hI, hH⟩ := hv
  have hx := B.exec
  have hb := B.bytes
  have hr := B.returns
  have hts := atoms_spec (ws := wsX11_harmOfPair) B.pre
  have hown : s.vm.findClass RX11 = some mid.cls := findClass_of_methodNamed B.named
  have hlocks := B.notSynchronized
  have hS : va_S (mt_A E) s.heap s.heap [] := va_S.rf
  have hl := lv_entry ([.ref (E.2.1 0), .int a1, .int a2]) (n := 3) (Nat.le_of_ble_eq_true rfl)
  rw [lg_entry_eq]
  generalize (lg_sl ([.ref (E.2.1 0), .int a1, .int a2]) ++ List.replicate (3 - (lg_sl ([.ref (E.2.1 0), .int a1, .int a2])).length) Slot.unset).toArray = ls at hl ⊢
  have hl : lv_has ls 3 [(0, .ref (E.2.1 0)), (1, .int a1), (2, .int a2)] := hl
  unfold f_X11_harmOfPair at hf
  have kw0 := hts (.fieldLink RX11 39 "MilkTwice" "house" "LMilkTwice$House;") (List.mem_of_getElem? (i := 1) rfl)
  have hinX11 : ∀ w ∈ u_ws RX11 TX11 10, w ∈ wsX11_harmOfPair := fun w h => List.mem_cons_of_mem _ (List.mem_append_left _ (List.mem_append_left _ (List.mem_append_right _ h)))
  have hinX4 : ∀ w ∈ u_ws RX4 TX4 6, w ∈ wsX11_harmOfPair := fun w h => List.mem_cons_of_mem _ (List.mem_append_left _ (List.mem_append_right _ h))
  refine lv_aload_n hx hb dX11_harmOfPair_0 rfl (lv_at hl 0 rfl) ?_
  refine mt_getr (C := RX11) (T := TX11) (N := 10) hx hb hts hinX11 hown hI hH mt_T0 rfl 0 (by decide) kw0 rfl rfl dX11_harmOfPair_1 ?_
  refine mt_getrN (C := RX4) (T := TX4) (N := 6) hx hb hts hinX4 hown hI hH mt_T10 rfl 0 (by decide) (List.mem_of_getElem? (i := 10) rfl) rfl rfl dX11_harmOfPair_4 ?_
  refine lv_iload_n hx hb dX11_harmOfPair_7 rfl (lv_at hl 1 rfl) ?_
  refine lv_iload_n hx hb dX11_harmOfPair_8 rfl (lv_at hl 2 rfl) ?_
  refine mt_b1I hf (fun r2 hg1 hf => ?_)
  refine mt_goi (mt_runS (As := [.int a2]) (rest := [.int a1, .ref (E.2.1 13)]) ⟨hx, hb, hml, hown, hts⟩ hI hH (c_J6_bitCount l E a2 M u _ hg1) (va_cwS 1 hts gX11_harmOfPair_J6_bitCount_0f7a4 rfl rfl rfl (by decide +kernel) ⟨Nat.le_of_ble_eq_true rfl, Nat.le_of_ble_eq_true rfl⟩) rfl hl.1 rfl (Nat.le_of_ble_eq_true rfl) dX11_harmOfPair_9 ⟨Nat.zero_le _, Nat.zero_le _⟩) hS (fun H locs hH hS => ?_)
  refine mt_b1I hf (fun r4 hg3 hf => ?_)
  refine mt_goi (mt_runV (i := 13) (As := [.int a1, .int r2]) (rest := []) ⟨hx, hb, hml, hown, hts⟩ hI hH (c_X0_harmOf l E 13 (by decide) a1 r2 M u _ hg3) (cwV 2 hts gX11_harmOfPair_X0_harmOf rfl rfl rfl (by decide +kernel) ⟨Nat.le_of_ble_eq_true rfl, Nat.le_of_ble_eq_true rfl⟩) mt_T13 rfl rfl hl.1 rfl (Nat.le_of_ble_eq_true rfl) dX11_harmOfPair_12 ⟨Nat.zero_le _, Nat.zero_le _⟩) hS (fun H locs hH hS => ?_)
  have i1 := mt_so1 hf
  subst i1
  exact mt_iret hx hb hr hI hH hS hlocks dX11_harmOfPair_15
set_option maxHeartbeats 4000000 in
set_option maxRecDepth 100000 in
theorem c_X11_game (l : Launch) (E : mt_E) (a1 : Int32) (M : mt_M) (u : mt_U) (r : Int32) (M' : mt_M) (hf : f_X11_game a1 M = some (r, M')) : Met l yX11_game wsX11_game ({ frames := 4, cells := 0, slots := 0, locals := 86 } : Room) (mt_P E [.ref (E.2.1 0), .int a1] M u) (mt_Qi E r M' u) 0 0 (mt_A E) := by
  refine Met.ofW (cc := cX11_game) (maxL := 5) (ret := (some .int)) (by decide) rfl ?_
  intro p e s mid args below meth c0 s₁ B hml hv
  obtain ⟨rfl, hI, hH⟩ := hv
  have hx := B.exec
  have hb := B.bytes
  have hr := B.returns
  have hts := atoms_spec (ws := wsX11_game) B.pre
  have hown : s.vm.findClass RX11 = some mid.cls := findClass_of_methodNamed B.named
  have hlocks := B.notSynchronized
  have hS : va_S (mt_A E) s.heap s.heap [] := va_S.rf
  have hl := lv_entry ([.ref (E.2.1 0), .int a1]) (n := 5) (Nat.le_of_ble_eq_true rfl)
  rw [lg_entry_eq]
  generalize (lg_sl ([.ref (E.2.1 0), .int a1]) ++ List.replicate (5 - (lg_sl ([.ref (E.2.1 0), .int a1])).length) Slot.unset).toArray = ls at hl ⊢
  have hl : lv_has ls 5 [(0, .ref (E.2.1 0)), (1, .int a1)] := hl
  unfold f_X11_game at hf
  have kw0 := hts (.fieldLink RX11 39 "MilkTwice" "house" "LMilkTwice$House;") (List.mem_of_getElem? (i := 1) rfl)
  have hinX11 : ∀ w ∈ u_ws RX11 TX11 10, w ∈ wsX11_game := fun w h => List.mem_cons_of_mem _ (List.mem_append_left _ (List.mem_append_left _ (List.mem_append_right _ h)))
  have hinX4 : ∀ w ∈ u_ws RX4 TX4 6, w ∈ wsX11_game := fun w h => List.mem_cons_of_mem _ (List.mem_append_left _ (List.mem_append_right _ h))
  refine lv_aload_n hx hb dX11_game_0 rfl (lv_at hl 0 rfl) ?_
  refine mt_getr (C := RX11) (T := TX11) (N := 10) hx hb hts hinX11 hown hI hH mt_T0 rfl 0 (by decide) kw0 rfl rfl dX11_game_1 ?_
  refine mt_getrN (C := RX4) (T := TX4) (N := 6) hx hb hts hinX4 hown hI hH mt_T10 rfl 0 (by decide) (List.mem_of_getElem? (i := 10) rfl) rfl rfl dX11_game_4 ?_
  refine lv_iload_n hx hb dX11_game_7 rfl (lv_at hl 1 rfl) ?_
  refine mt_b1I hf (fun r2 hg1 hf => ?_)
  refine mt_goi (mt_runV (i := 13) (As := [.int a1]) (rest := []) ⟨hx, hb, hml, hown, hts⟩ hI hH (c_X0_has l E 13 (by decide) a1 M u _ hg1) (cwV 1 hts gX11_game_X0_has rfl rfl rfl (by decide +kernel) ⟨Nat.le_of_ble_eq_true rfl, Nat.le_of_ble_eq_true rfl⟩) mt_T13 rfl rfl hl.1 rfl (Nat.le_of_ble_eq_true rfl) dX11_game_8 ⟨Nat.zero_le _, Nat.zero_le _⟩) hS (fun H locs hH hS => ?_)
  refine lv_if_ne (tgt := 20) hx hb dX11_game_11 (by decide) (fun c3 => ?_) (fun c3 => ?_)
  · have hf := mt_ifF c3 hf
    refine lv_iconst (v := 0) hx hb dX11_game_20 (by decide) ?_
    refine lv_istore_n (lv' := [(2, .int (0 : Int32)), (0, .ref (E.2.1 0)), (1, .int a1)]) hx hb dX11_game_21 rfl hl (by decide) rfl (fun ls hl => ?_)
    refine lv_iconst (v := 0) hx hb dX11_game_22 (by decide) ?_
    refine lv_istore_n (lv' := [(3, .int (0 : Int32)), (2, .int (0 : Int32)), (0, .ref (E.2.1 0)), (1, .int a1)]) hx hb dX11_game_23 rfl hl (by decide) rfl (fun ls hl => ?_)
    refine mt_lpI2 hf (fun (x4 : Int32) (x5 : Int32) => ∀ (H : Heap) (locs : List Loc) (ls : Array Slot), mt_H E M u H → va_S (mt_A E) s.heap H locs → lv_has ls 5 [(0, .ref (E.2.1 0)), (1, .int a1), (2, .int x4), (3, .int x5)] → W p l e (headSpec wsX11_game ({ frames := 4, cells := 0, slots := 0, locals := 86 } : Room)).room s mid (([.ref (E.2.1 0), .int a1] : List Value).toArray) below meth c0 H locs 0 0 (MQ below (mt_Qi E r M' u) (([.ref (E.2.1 0), .int a1] : List Value).toArray) s 0 0 (mt_A E)) (F0 mid 24 ls [])) ?_ _ _ _ hH hS (lv_sub hl [2, 3, 1, 0] rfl)
    intro k6 ih7 x4 x5 hf H locs ls hH hS hl
    refine lv_iload_n hx hb dX11_game_24 rfl (lv_at hl 3 rfl) ?_
    refine lv_iconst (v := 4) hx hb dX11_game_25 (by decide) ?_
    refine lv_icmp_ge (tgt := 75) hx hb dX11_game_26 (by decide) (fun c8 => ?_) (fun c8 => ?_)
    · have hf := mt_ifT c8 hf
      refine lv_iload_n hx hb dX11_game_75 rfl (lv_at hl 2 rfl) ?_
      obtain ⟨i1, i2⟩ := mt_so2 hf
      subst i1
      subst i2
      exact mt_iret hx hb hr hI hH hS hlocks dX11_game_76
    · have hf := mt_ifF c8 hf
      refine lv_aload_n hx hb dX11_game_29 rfl (lv_at hl 0 rfl) ?_
      refine lv_iload_n hx hb dX11_game_30 rfl (lv_at hl 1 rfl) ?_
      refine lv_iload_n hx hb dX11_game_31 rfl (lv_at hl 3 rfl) ?_
      refine mt_b1I hf (fun r10 hg9 hf => ?_)
      refine mt_goi (mt_runV (i := 0) (As := [.int a1, .int x5]) (rest := []) ⟨hx, hb, hml, hown, hts⟩ hI hH (c_X11_harmOfPair l E a1 x5 M u _ hg9) (cwV 2 hts gX11_game_X11_harmOfPair rfl rfl rfl (by decide +kernel) ⟨Nat.le_of_ble_eq_true rfl, Nat.le_of_ble_eq_true rfl⟩) mt_T0 rfl rfl hl.1 rfl (Nat.le_of_ble_eq_true rfl) dX11_game_32 ⟨Nat.zero_le _, Nat.zero_le _⟩) hS (fun H locs hH hS => ?_)
      refine lv_istore (lv' := [(4, .int r10), (0, .ref (E.2.1 0)), (1, .int a1), (2, .int x4), (3, .int x5)]) hx hb dX11_game_35 hl (by decide) rfl (fun ls hl => ?_)
      refine lv_iload hx hb dX11_game_37 (lv_at hl 0 rfl) ?_
      refine lv_aload_n hx hb dX11_game_39 rfl (lv_at hl 1 rfl) ?_
      refine lv_iload_n hx hb dX11_game_40 rfl (lv_at hl 2 rfl) ?_
      refine lv_iload_n hx hb dX11_game_41 rfl (lv_at hl 4 rfl) ?_
      refine lv_iconst (v := 1) hx hb dX11_game_42 (by decide) ?_
      refine lv_ixor hx hb dX11_game_43 ?_
      refine mt_b1I hf (fun r12 hg11 hf => ?_)
      refine mt_goi (mt_runV (i := 0) (As := [.int a1, .int (x5 ^^^ (1 : Int32))]) (rest := [.int r10]) ⟨hx, hb, hml, hown, hts⟩ hI hH (c_X11_harmOfPair l E a1 (x5 ^^^ (1 : Int32)) M u _ hg11) (cwV 2 hts gX11_game_X11_harmOfPair rfl rfl rfl (by decide +kernel) ⟨Nat.le_of_ble_eq_true rfl, Nat.le_of_ble_eq_true rfl⟩) mt_T0 rfl rfl hl.1 rfl (Nat.le_of_ble_eq_true rfl) dX11_game_44 ⟨Nat.zero_le _, Nat.zero_le _⟩) hS (fun H locs hH hS => ?_)
      refine mt_jn1 hf (fun (x13 : Int32) => ∀ (H : Heap) (locs : List Loc) (ls : Array Slot), mt_H E M u H → va_S (mt_A E) s.heap H locs → lv_has ls 5 [(0, .ref (E.2.1 0)), (1, .int a1), (2, .int x13), (3, .int x5)] → W p l e (headSpec wsX11_game ({ frames := 4, cells := 0, slots := 0, locals := 86 } : Room)).room s mid (([.ref (E.2.1 0), .int a1] : List Value).toArray) below meth c0 H locs 0 0 (MQ below (mt_Qi E r M' u) (([.ref (E.2.1 0), .int a1] : List Value).toArray) s 0 0 (mt_A E)) (F0 mid 69 ls [])) ?_ ?_
      · intro x13 hf H locs ls hH hS hl
        refine mt_ltI hf (fun x16 ex16 hf => ?_)
        refine lv_iinc (v := x16) (lv' := [(3, .int x16), (0, .ref (E.2.1 0)), (1, .int a1), (2, .int x13)]) hx hb dX11_game_69 hl (k := 3) rfl (by rw [ex16]; rfl) (by decide) rfl (fun ls hl => ?_)
        refine lv_goto (tgt := 24) hx hb dX11_game_72 (by decide) ?_
        exact ih7 x13 x16 hf _ _ _ hH hS (lv_sub hl [1, 2, 3, 0] rfl)
      · intro j14 hj15 hf
        refine lv_icmp_gt (tgt := 69) hx hb dX11_game_47 (by decide) (fun c17 => ?_) (fun c17 => ?_)
        · have hf := mt_ifT c17 hf
          exact hj15 x4 hf _ _ _ hH hS (lv_sub hl [1, 2, 3, 4] rfl)
        · have hf := mt_ifF c17 hf
          refine lv_iload hx hb dX11_game_50 (lv_at hl 0 rfl) ?_
          refine lv_aload_n hx hb dX11_game_52 rfl (lv_at hl 1 rfl) ?_
          refine lv_iload_n hx hb dX11_game_53 rfl (lv_at hl 2 rfl) ?_
          refine lv_iload_n hx hb dX11_game_54 rfl (lv_at hl 4 rfl) ?_
          refine lv_iconst (v := 2) hx hb dX11_game_55 (by decide) ?_
          refine lv_ixor hx hb dX11_game_56 ?_
          refine mt_b1I hf (fun r19 hg18 hf => ?_)
          refine mt_goi (mt_runV (i := 0) (As := [.int a1, .int (x5 ^^^ (2 : Int32))]) (rest := [.int r10]) ⟨hx, hb, hml, hown, hts⟩ hI hH (c_X11_harmOfPair l E a1 (x5 ^^^ (2 : Int32)) M u _ hg18) (cwV 2 hts gX11_game_X11_harmOfPair rfl rfl rfl (by decide +kernel) ⟨Nat.le_of_ble_eq_true rfl, Nat.le_of_ble_eq_true rfl⟩) mt_T0 rfl rfl hl.1 rfl (Nat.le_of_ble_eq_true rfl) dX11_game_57 ⟨Nat.zero_le _, Nat.zero_le _⟩) hS (fun H locs hH hS => ?_)
          refine lv_icmp_gt (tgt := 69) hx hb dX11_game_60 (by decide) (fun c20 => ?_) (fun c20 => ?_)
          · have hf := mt_ifT c20 hf
            exact hj15 x4 hf _ _ _ hH hS (lv_sub hl [1, 2, 3, 4] rfl)
          · have hf := mt_ifF c20 hf
            refine lv_iload_n hx hb dX11_game_63 rfl (lv_at hl 3 rfl) ?_
            refine lv_iconst (v := 1) hx hb dX11_game_64 (by decide) ?_
            refine lv_iload_n hx hb dX11_game_65 rfl (lv_at hl 4 rfl) ?_
            refine lv_ishl hx hb dX11_game_66 ?_
            refine lv_ior hx hb dX11_game_67 ?_
            refine mt_lti hf (fun x21 ex21 hf => ?_)
            refine lv_istore_n (lv' := [(2, .int x21), (4, .int r10), (0, .ref (E.2.1 0)), (1, .int a1), (3, .int x5)]) hx hb dX11_game_68 rfl hl (by decide) rfl (fun ls hl => ?_)
            exact hj15 x21 hf _ _ _ hH hS (lv_sub hl [2, 3, 0, 4] rfl)
  · have hf := mt_ifT c3 hf
    refine lv_aload_n hx hb dX11_game_14 rfl (lv_at hl 0 rfl) ?_
    refine lv_iconst (v := (-1)) hx hb dX11_game_15 (by decide) ?_
    refine mt_b2I hf (fun r23 M24 hg22 hf => ?_)
    refine mt_goi (mt_runV (i := 0) (As := [.int (-1 : Int32)]) (rest := []) ⟨hx, hb, hml, hown, hts⟩ hI hH (c_X11_refuse l E (-1 : Int32) M u _ _ hg22) (cwV 1 hts gX11_game_X11_refuse rfl rfl rfl (by decide +kernel) ⟨Nat.le_of_ble_eq_true rfl, Nat.le_of_ble_eq_true rfl⟩) mt_T0 rfl rfl hl.1 rfl (Nat.le_of_ble_eq_true rfl) dX11_game_16 ⟨Nat.zero_le _, Nat.zero_le _⟩) hS (fun H locs hH hS => ?_)
    obtain ⟨i1, i2⟩ := mt_so2 hf
    subst i1
    subst i2
    exact mt_iret hx hb hr hI hH hS hlocks dX11_game_19
set_option maxHeartbeats 4000000 in
set_option maxRecDepth 100000 in
theorem c_X11_all (l : Launch) (E : mt_E) (a1 : Int32) (a2 : Int32) (a3 : Int32) (M : mt_M) (u : mt_U) (r : Int32) (M' : mt_M) (hf : f_X11_all a1 a2 a3 M = some (r, M')) : Met l yX11_all wsX11_all ({ frames := 4, cells := 0, slots := 0, locals := 90 } : Room) (mt_P E [.ref (E.2.1 0), .int a1, .int a2, .int a3] M u) (mt_Qi E r M' u) 0 0 (mt_A E) := by
  refine Met.ofW (cc := cX11_all) (maxL := 10) (ret := (some .int)) (by decide) rfl ?_
  intro p e s mid args below meth c0 s₁ B hml hv
  obtain ⟨rfl, hI, hH⟩ := hv
  have hx := B.exec
  have hb := B.bytes
  have hr := B.returns
  have hts := atoms_spec (ws := wsX11_all) B.pre
  have hown : s.vm.findClass RX11 = some mid.cls := findClass_of_methodNamed B.named
  have hlocks := B.notSynchronized
  have hS : va_S (mt_A E) s.heap s.heap [] := va_S.rf
  have hl := lv_entry ([.ref (E.2.1 0), .int a1, .int a2, .int a3]) (n := 10) (Nat.le_of_ble_eq_true rfl)
  rw [lg_entry_eq]
  generalize (lg_sl ([.ref (E.2.1 0), .int a1, .int a2, .int a3]) ++ List.replicate (10 - (lg_sl ([.ref (E.2.1 0), .int a1, .int a2, .int a3])).length) Slot.unset).toArray = ls at hl ⊢
  have hl : lv_has ls 10 [(0, .ref (E.2.1 0)), (1, .int a1), (2, .int a2), (3, .int a3)] := hl
  unfold f_X11_all at hf
  have kw0 := hts (.fieldLink RX11 39 "MilkTwice" "house" "LMilkTwice$House;") (List.mem_of_getElem? (i := 1) rfl)
  have kw1 := hts (.methodLink RX11 78 Lib.Math.min.name) (List.mem_of_getElem? (i := 2) rfl)
  have kw2 := hts (.static Lib.Math.min.name) (List.mem_of_getElem? (i := 3) rfl)
  have kw3 := hts (.initialized "java/lang/Math") (List.mem_of_getElem? (i := 4) rfl)
  have kw4 := hts (.code Lib.Math.min.name Lib.Math.min.code 2 (some .int)) (List.mem_of_getElem? (i := 5) rfl)
  have hinX11 : ∀ w ∈ u_ws RX11 TX11 10, w ∈ wsX11_all := fun w h => List.mem_cons_of_mem _ (List.mem_append_left _ (List.mem_append_left _ (List.mem_append_right _ h)))
  have hinX4 : ∀ w ∈ u_ws RX4 TX4 6, w ∈ wsX11_all := fun w h => List.mem_cons_of_mem _ (List.mem_append_left _ (List.mem_append_right _ h))
  have hinX0 : ∀ w ∈ u_ws RX0 TX0 12, w ∈ wsX11_all := fun w h => List.mem_cons_of_mem _ (List.mem_append_right _ h)
  refine lv_iload_n hx hb dX11_all_0 rfl (lv_at hl 1 rfl) ?_
  refine lv_iload_n hx hb dX11_all_1 rfl (lv_at hl 2 rfl) ?_
  refine lv_iconst (v := 0) hx hb dX11_all_2 (by decide) ?_
  refine lv_bipush (v := 10) hx hb dX11_all_3 (by decide) ?_
  refine mt_b1I hf (fun r2 hg1 hf => ?_)
  refine mt_goi (mt_runS (As := [.int a1, .int a2, .int (0 : Int32), .int (10 : Int32)]) (rest := []) ⟨hx, hb, hml, hown, hts⟩ hI hH (c_X11_eitherOutside l E a1 a2 (0 : Int32) (10 : Int32) M u _ hg1) (va_cwS 4 hts gX11_all_X11_eitherOutside rfl rfl rfl (by decide +kernel) ⟨Nat.le_of_ble_eq_true rfl, Nat.le_of_ble_eq_true rfl⟩) rfl hl.1 rfl (Nat.le_of_ble_eq_true rfl) dX11_all_5 ⟨Nat.zero_le _, Nat.zero_le _⟩) hS (fun H locs hH hS => ?_)
  refine lv_iload_n hx hb dX11_all_8 rfl (lv_at hl 3 rfl) ?_
  refine lv_iconst (v := 1) hx hb dX11_all_9 (by decide) ?_
  refine mt_b1I hf (fun r4 hg3 hf => ?_)
  refine mt_goi (mt_runS (As := [.int a3, .int (1 : Int32)]) (rest := [.int r2]) ⟨hx, hb, hml, hown, hts⟩ hI hH (c_X11_isOneOf l E a3 (1 : Int32) M u _ hg3) (va_cwS 2 hts gX11_all_X11_isOneOf rfl rfl rfl (by decide +kernel) ⟨Nat.le_of_ble_eq_true rfl, Nat.le_of_ble_eq_true rfl⟩) rfl hl.1 rfl (Nat.le_of_ble_eq_true rfl) dX11_all_10 ⟨Nat.zero_le _, Nat.zero_le _⟩) hS (fun H locs hH hS => ?_)
  refine lv_bipush (v := (-2)) hx hb dX11_all_13 (by decide) ?_
  refine mt_b1I hf (fun r6 hg5 hf => ?_)
  refine mt_goi (mt_runS (As := [.int r2, .int r4, .int (-2 : Int32)]) (rest := []) ⟨hx, hb, hml, hown, hts⟩ hI hH (c_X11_firstOf l E r2 r4 (-2 : Int32) M u _ hg5) (va_cwS 3 hts gX11_all_X11_firstOf rfl rfl rfl (by decide +kernel) ⟨Nat.le_of_ble_eq_true rfl, Nat.le_of_ble_eq_true rfl⟩) rfl hl.1 rfl (Nat.le_of_ble_eq_true rfl) dX11_all_15 ⟨Nat.zero_le _, Nat.zero_le _⟩) hS (fun H locs hH hS => ?_)
  refine lv_istore (lv' := [(4, .int r6), (0, .ref (E.2.1 0)), (1, .int a1), (2, .int a2), (3, .int a3)]) hx hb dX11_all_18 hl (by decide) rfl (fun ls hl => ?_)
  refine lv_iload hx hb dX11_all_20 (lv_at hl 0 rfl) ?_
  refine lv_if_eq (tgt := 32) hx hb dX11_all_22 (by decide) (fun c7 => ?_) (fun c7 => ?_)
  · have hf := mt_ifT c7 hf
    refine lv_iconst (v := 0) hx hb dX11_all_32 (by decide) ?_
    refine lv_istore (lv' := [(5, .int (0 : Int32)), (4, .int r6), (0, .ref (E.2.1 0)), (1, .int a1), (2, .int a2), (3, .int a3)]) hx hb dX11_all_33 hl (by decide) rfl (fun ls hl => ?_)
    refine lv_iconst (v := 0) hx hb dX11_all_35 (by decide) ?_
    refine lv_istore (lv' := [(6, .int (0 : Int32)), (5, .int (0 : Int32)), (4, .int r6), (0, .ref (E.2.1 0)), (1, .int a1), (2, .int a2), (3, .int a3)]) hx hb dX11_all_36 hl (by decide) rfl (fun ls hl => ?_)
    refine lv_iconst (v := 0) hx hb dX11_all_38 (by decide) ?_
    refine lv_istore (lv' := [(7, .int (0 : Int32)), (6, .int (0 : Int32)), (5, .int (0 : Int32)), (4, .int r6), (0, .ref (E.2.1 0)), (1, .int a1), (2, .int a2), (3, .int a3)]) hx hb dX11_all_39 hl (by decide) rfl (fun ls hl => ?_)
    refine mt_lpI3 hf (fun (x8 : Int32) (x9 : Int32) (x10 : Int32) => ∀ (H : Heap) (locs : List Loc) (ls : Array Slot), mt_H E M u H → va_S (mt_A E) s.heap H locs → lv_has ls 10 [(0, .ref (E.2.1 0)), (1, .int a1), (2, .int a2), (3, .int a3), (5, .int x8), (6, .int x9), (7, .int x10)] → W p l e (headSpec wsX11_all ({ frames := 4, cells := 0, slots := 0, locals := 90 } : Room)).room s mid (([.ref (E.2.1 0), .int a1, .int a2, .int a3] : List Value).toArray) below meth c0 H locs 0 0 (MQ below (mt_Qi E r M' u) (([.ref (E.2.1 0), .int a1, .int a2, .int a3] : List Value).toArray) s 0 0 (mt_A E)) (F0 mid 41 ls [])) ?_ _ _ _ hH hS (lv_sub hl [4, 5, 6, 7, 2, 1, 0] rfl)
    intro k11 ih12 x8 x9 x10 hf H locs ls hH hS hl
    refine lv_iload hx hb dX11_all_41 (lv_at hl 6 rfl) ?_
    refine lv_aload_n hx hb dX11_all_43 rfl (lv_at hl 0 rfl) ?_
    refine mt_getr (C := RX11) (T := TX11) (N := 10) hx hb hts hinX11 hown hI hH mt_T0 rfl 0 (by decide) kw0 rfl rfl dX11_all_44 ?_
    refine mt_getrN (C := RX4) (T := TX4) (N := 6) hx hb hts hinX4 hown hI hH mt_T10 rfl 0 (by decide) (List.mem_of_getElem? (i := 10) rfl) rfl rfl dX11_all_47 ?_
    refine mt_getiN (C := RX0) (T := TX0) (N := 12) hx hb hts hinX0 hown hI hH mt_T13 rfl 8 (by decide) (List.mem_of_getElem? (i := 2) rfl) rfl rfl dX11_all_50 ?_
    refine lv_icmp_ge (tgt := 116) hx hb dX11_all_53 (by decide) (fun c13 => ?_) (fun c13 => ?_)
    · have hf := mt_ifT c13 hf
      refine lv_iload_n hx hb dX11_all_116 rfl (lv_at hl 3 rfl) ?_
      refine lv_if_ne (tgt := 125) hx hb dX11_all_117 (by decide) (fun c14 => ?_) (fun c14 => ?_)
      · have hf := mt_ifF c14 hf
        refine lv_iload hx hb dX11_all_125 (lv_at hl 5 rfl) ?_
        obtain ⟨i1, i2⟩ := mt_so2 hf
        subst i1
        subst i2
        exact mt_iret hx hb hr hI hH hS hlocks dX11_all_127
      · have hf := mt_ifT c14 hf
        refine lv_iload hx hb dX11_all_120 (lv_at hl 4 rfl) ?_
        refine lv_goto (tgt := 127) hx hb dX11_all_122 (by decide) ?_
        obtain ⟨i1, i2⟩ := mt_so2 hf
        subst i1
        subst i2
        exact mt_iret hx hb hr hI hH hS hlocks dX11_all_127
    · have hf := mt_ifF c13 hf
      refine lv_aload_n hx hb dX11_all_56 rfl (lv_at hl 0 rfl) ?_
      refine lv_iload hx hb dX11_all_57 (lv_at hl 6 rfl) ?_
      refine lv_iload_n hx hb dX11_all_59 rfl (lv_at hl 1 rfl) ?_
      refine lv_iload_n hx hb dX11_all_60 rfl (lv_at hl 2 rfl) ?_
      refine lv_iconst (v := 1) hx hb dX11_all_61 (by decide) ?_
      refine mt_b1I hf (fun r16 hg15 hf => ?_)
      refine mt_goi (mt_runV (i := 0) (As := [.int x10, .int a1, .int a2, .int (1 : Int32)]) (rest := []) ⟨hx, hb, hml, hown, hts⟩ hI hH (c_X11_meanHarm l E x10 a1 a2 (1 : Int32) M u _ hg15) (cwV 4 hts gX11_all_X11_meanHarm rfl rfl rfl (by decide +kernel) ⟨Nat.le_of_ble_eq_true rfl, Nat.le_of_ble_eq_true rfl⟩) mt_T0 rfl rfl hl.1 rfl (Nat.le_of_ble_eq_true rfl) dX11_all_62 ⟨Nat.zero_le _, Nat.zero_le _⟩) hS (fun H locs hH hS => ?_)
      refine lv_istore (lv' := [(8, .int r16), (0, .ref (E.2.1 0)), (1, .int a1), (2, .int a2), (3, .int a3), (5, .int x8), (6, .int x9), (7, .int x10)]) hx hb dX11_all_65 hl (by decide) rfl (fun ls hl => ?_)
      refine lv_aload_n hx hb dX11_all_67 rfl (lv_at hl 1 rfl) ?_
      refine lv_iload hx hb dX11_all_68 (lv_at hl 7 rfl) ?_
      refine lv_iload_n hx hb dX11_all_70 rfl (lv_at hl 2 rfl) ?_
      refine lv_iload_n hx hb dX11_all_71 rfl (lv_at hl 3 rfl) ?_
      refine lv_iconst (v := 2) hx hb dX11_all_72 (by decide) ?_
      refine mt_b1I hf (fun r18 hg17 hf => ?_)
      refine mt_goi (mt_runV (i := 0) (As := [.int x10, .int a1, .int a2, .int (2 : Int32)]) (rest := []) ⟨hx, hb, hml, hown, hts⟩ hI hH (c_X11_meanHarm l E x10 a1 a2 (2 : Int32) M u _ hg17) (cwV 4 hts gX11_all_X11_meanHarm rfl rfl rfl (by decide +kernel) ⟨Nat.le_of_ble_eq_true rfl, Nat.le_of_ble_eq_true rfl⟩) mt_T0 rfl rfl hl.1 rfl (Nat.le_of_ble_eq_true rfl) dX11_all_73 ⟨Nat.zero_le _, Nat.zero_le _⟩) hS (fun H locs hH hS => ?_)
      refine lv_istore (lv' := [(9, .int r18), (8, .int r16), (0, .ref (E.2.1 0)), (1, .int a1), (2, .int a2), (3, .int a3), (5, .int x8), (6, .int x9), (7, .int x10)]) hx hb dX11_all_76 hl (by decide) rfl (fun ls hl => ?_)
      refine lv_iload hx hb dX11_all_78 (lv_at hl 6 rfl) ?_
      refine lv_iload hx hb dX11_all_80 (lv_at hl 0 rfl) ?_
      refine lv_iload hx hb dX11_all_82 (lv_at hl 1 rfl) ?_
      refine mt_jn1 hf (fun (v19 : Int32) => ∀ (H : Heap) (locs : List Loc) (ls : Array Slot), mt_H E M u H → va_S (mt_A E) s.heap H locs → lv_has ls 10 [(0, .ref (E.2.1 0)), (1, .int a1), (2, .int a2), (3, .int a3), (6, .int x9), (7, .int x10), (8, .int r16), (9, .int r18)] → W p l e (headSpec wsX11_all ({ frames := 4, cells := 0, slots := 0, locals := 90 } : Room)).room s mid (([.ref (E.2.1 0), .int a1, .int a2, .int a3] : List Value).toArray) below meth c0 H locs 0 0 (MQ below (mt_Qi E r M' u) (([.ref (E.2.1 0), .int a1, .int a2, .int a3] : List Value).toArray) s 0 0 (mt_A E)) (F0 mid 95 ls [.int v19, .int x8])) ?_ ?_
      · intro v19 hf H locs ls hH hS hl
        refine lv_ior hx hb dX11_all_95 ?_
        refine mt_lti hf (fun x22 ex22 hf => ?_)
        refine lv_istore (lv' := [(5, .int x22), (0, .ref (E.2.1 0)), (1, .int a1), (2, .int a2), (3, .int a3), (6, .int x9), (7, .int x10), (8, .int r16), (9, .int r18)]) hx hb dX11_all_96 hl (by decide) rfl (fun ls hl => ?_)
        refine lv_iload hx hb dX11_all_98 (lv_at hl 5 rfl) ?_
        refine lv_iload hx hb dX11_all_100 (lv_at hl 7 rfl) ?_
        refine lv_iload hx hb dX11_all_102 (lv_at hl 8 rfl) ?_
        refine va_mmin hx hb (hml.trans hl.1.symm) hown kw1 kw2 kw3 kw4 (Nat.le_of_ble_eq_true rfl) (Nat.le_of_ble_eq_true rfl) (Nat.zero_le _) (Nat.zero_le _) dX11_all_104 ?_
        refine mt_lti hf (fun x23 ex23 hf => ?_)
        refine lv_iadd hx hb dX11_all_107 ?_
        refine mt_lti hf (fun x24 ex24 hf => ?_)
        refine lv_istore (lv' := [(6, .int x24), (5, .int x22), (0, .ref (E.2.1 0)), (1, .int a1), (2, .int a2), (3, .int a3), (7, .int x10), (8, .int r16), (9, .int r18)]) hx hb dX11_all_108 hl (by decide) rfl (fun ls hl => ?_)
        refine mt_ltI hf (fun x25 ex25 hf => ?_)
        refine lv_iinc (v := x25) (lv' := [(7, .int x25), (6, .int x24), (5, .int x22), (0, .ref (E.2.1 0)), (1, .int a1), (2, .int a2), (3, .int a3), (8, .int r16), (9, .int r18)]) hx hb dX11_all_110 hl (k := 6) rfl (by rw [ex25]; rfl) (by decide) rfl (fun ls hl => ?_)
        refine lv_goto (tgt := 41) hx hb dX11_all_113 (by decide) ?_
        exact ih12 x22 x24 x25 hf _ _ _ hH hS (lv_sub hl [3, 4, 5, 6, 2, 1, 0] rfl)
      · intro j20 hj21 hf
        refine lv_icmp_ge (tgt := 94) hx hb dX11_all_84 (by decide) (fun c26 => ?_) (fun c26 => ?_)
        · have hf := mt_ifT c26 hf
          refine lv_iconst (v := 0) hx hb dX11_all_94 (by decide) ?_
          exact hj21 (0 : Int32) hf _ _ _ hH hS (lv_sub hl [2, 3, 4, 5, 7, 8, 1, 0] rfl)
        · have hf := mt_ifF c26 hf
          refine lv_iconst (v := 1) hx hb dX11_all_87 (by decide) ?_
          refine lv_iload hx hb dX11_all_88 (lv_at hl 8 rfl) ?_
          refine lv_ishl hx hb dX11_all_90 ?_
          refine lv_goto (tgt := 95) hx hb dX11_all_91 (by decide) ?_
          exact hj21 ((1 : Int32) <<< (x10 &&& 31)) hf _ _ _ hH hS (lv_sub hl [2, 3, 4, 5, 7, 8, 1, 0] rfl)
  · have hf := mt_ifF c7 hf
    refine lv_aload_n hx hb dX11_all_25 rfl (lv_at hl 1 rfl) ?_
    refine lv_iload hx hb dX11_all_26 (lv_at hl 0 rfl) ?_
    refine mt_b2I hf (fun r28 M29 hg27 hf => ?_)
    refine mt_goi (mt_runV (i := 0) (As := [.int r6]) (rest := []) ⟨hx, hb, hml, hown, hts⟩ hI hH (c_X11_refuse l E r6 M u _ _ hg27) (cwV 1 hts gX11_all_X11_refuse rfl rfl rfl (by decide +kernel) ⟨Nat.le_of_ble_eq_true rfl, Nat.le_of_ble_eq_true rfl⟩) mt_T0 rfl rfl hl.1 rfl (Nat.le_of_ble_eq_true rfl) dX11_all_28 ⟨Nat.zero_le _, Nat.zero_le _⟩) hS (fun H locs hH hS => ?_)
    obtain ⟨i1, i2⟩ := mt_so2 hf
    subst i1
    subst i2
    exact mt_iret hx hb hr hI hH hS hlocks dX11_all_31

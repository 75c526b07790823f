/-! THE WALKS, laid by program: each method returns what its pure function says, and leaves the memory so -/
set_option maxHeartbeats 4000000 in
set_option maxRecDepth 100000 in
theorem c_X12_game (l : Launch) (E : mt_E) (a1 : Int32) (M : mt_M) (u : mt_U) (r : Int32) (M' : mt_M) (hf : f_X12_game a1 M = some (r, M')) : Met l yX12_game wsX12_game ({ frames := 2, cells := 0, slots := 0, locals := 44 } : Room) (mt_P E [.ref (E.2.1 147), .int a1] M u) (mt_Qi E r M' u) 0 0 (mt_A E) := by
  refine Met.ofW (cc := cX12_game) (maxL := 5) (ret := (some .int)) (by decide) rfl ?_
  intro p e s mid args below meth c0 s₁ B hml hv
  obtain ⟨rfl, hI, hH⟩ := hv
  have hx := B.exec
  have hb := B.bytes
  have hr := B.returns
  have hts := atoms_spec (ws := wsX12_game) B.pre
  have hown : s.vm.findClass RX12 = some mid.cls := findClass_of_methodNamed B.named
  have hlocks := B.notSynchronized
  have hS : va_S (mt_A E) s.heap s.heap [] := va_S.rf
  have hl := lv_entry ([.ref (E.2.1 147), .int a1]) (n := 5) (Nat.le_of_ble_eq_true rfl)
  rw [lg_entry_eq]
  generalize (lg_sl ([.ref (E.2.1 147), .int a1]) ++ List.replicate (5 - (lg_sl ([.ref (E.2.1 147), .int a1])).length) Slot.unset).toArray = ls at hl ⊢
  have hl : lv_has ls 5 [(0, .ref (E.2.1 147)), (1, .int a1)] := hl
  unfold f_X12_game at hf
  refine lv_aload_n hx hb dX12_game_0 rfl (lv_at hl 0 rfl) ?_
  refine lv_iload_n hx hb dX12_game_1 rfl (lv_at hl 1 rfl) ?_
  refine mt_b1I hf (fun r2 hg1 hf => ?_)
  refine mt_goi (mt_runV (i := 147) (As := [.int a1]) (rest := []) ⟨hx, hb, hml, hown, hts⟩ hI hH (c_X12_isThing l E a1 M u _ hg1) (cwV 1 hts gX12_game_X12_isThing rfl rfl rfl (by decide +kernel) ⟨Nat.le_of_ble_eq_true rfl, Nat.le_of_ble_eq_true rfl⟩) mt_T147 rfl rfl hl.1 rfl (Nat.le_of_ble_eq_true rfl) dX12_game_2 ⟨Nat.zero_le _, Nat.zero_le _⟩) hS (fun H locs hH hS => ?_)
  refine lv_if_ne (tgt := 14) hx hb dX12_game_5 (by decide) (fun c3 => ?_) (fun c3 => ?_)
  · have hf := mt_ifF c3 hf
    refine lv_iconst (v := 0) hx hb dX12_game_14 (by decide) ?_
    refine lv_istore_n (lv' := [(2, .int (0 : Int32)), (0, .ref (E.2.1 147)), (1, .int a1)]) hx hb dX12_game_15 rfl hl (by decide) rfl (fun ls hl => ?_)
    refine lv_iconst (v := 0) hx hb dX12_game_16 (by decide) ?_
    refine lv_istore_n (lv' := [(3, .int (0 : Int32)), (2, .int (0 : Int32)), (0, .ref (E.2.1 147)), (1, .int a1)]) hx hb dX12_game_17 rfl hl (by decide) rfl (fun ls hl => ?_)
    refine mt_lpI2 hf (fun (x4 : Int32) (x5 : Int32) => ∀ (H : Heap) (locs : List Loc) (ls : Array Slot), mt_H E M u H → va_S (mt_A E) s.heap H locs → lv_has ls 5 [(0, .ref (E.2.1 147)), (1, .int a1), (2, .int x4), (3, .int x5)] → W p l e (headSpec wsX12_game ({ frames := 2, cells := 0, slots := 0, locals := 44 } : Room)).room s mid (([.ref (E.2.1 147), .int a1] : List Value).toArray) below meth c0 H locs 0 0 (MQ below (mt_Qi E r M' u) (([.ref (E.2.1 147), .int a1] : List Value).toArray) s 0 0 (mt_A E)) (F0 mid 18 ls [])) ?_ _ _ _ hH hS (lv_sub hl [2, 3, 1, 0] rfl)
    intro k6 ih7 x4 x5 hf H locs ls hH hS hl
    refine lv_iload_n hx hb dX12_game_18 rfl (lv_at hl 3 rfl) ?_
    refine lv_iconst (v := 4) hx hb dX12_game_19 (by decide) ?_
    refine lv_icmp_ge (tgt := 82) hx hb dX12_game_20 (by decide) (fun c8 => ?_) (fun c8 => ?_)
    · have hf := mt_ifT c8 hf
      refine lv_iload_n hx hb dX12_game_82 rfl (lv_at hl 2 rfl) ?_
      obtain ⟨i1, i2⟩ := mt_so2 hf
      subst i1
      subst i2
      exact mt_iret hx hb hr hI hH hS hlocks dX12_game_83
    · have hf := mt_ifF c8 hf
      refine lv_aload_n hx hb dX12_game_23 rfl (lv_at hl 0 rfl) ?_
      refine lv_iload_n hx hb dX12_game_24 rfl (lv_at hl 1 rfl) ?_
      refine lv_iload_n hx hb dX12_game_25 rfl (lv_at hl 3 rfl) ?_
      refine mt_b1I hf (fun r10 hg9 hf => ?_)
      refine mt_goi (mt_runS (As := [.int x5]) (rest := [.int a1, .ref (E.2.1 147)]) ⟨hx, hb, hml, hown, hts⟩ hI hH (c_X12_bits l E x5 M u _ hg9) (va_cwS 1 hts gX12_game_X12_bits rfl rfl rfl (by decide +kernel) ⟨Nat.le_of_ble_eq_true rfl, Nat.le_of_ble_eq_true rfl⟩) rfl hl.1 rfl (Nat.le_of_ble_eq_true rfl) dX12_game_26 ⟨Nat.zero_le _, Nat.zero_le _⟩) hS (fun H locs hH hS => ?_)
      refine mt_b1I hf (fun r12 hg11 hf => ?_)
      refine mt_goi (mt_runV (i := 147) (As := [.int a1, .int r10]) (rest := []) ⟨hx, hb, hml, hown, hts⟩ hI hH (c_X12_harmOf l E a1 r10 M u _ hg11) (cwV 2 hts gX12_game_X12_harmOf rfl rfl rfl (by decide +kernel) ⟨Nat.le_of_ble_eq_true rfl, Nat.le_of_ble_eq_true rfl⟩) mt_T147 rfl rfl hl.1 rfl (Nat.le_of_ble_eq_true rfl) dX12_game_29 ⟨Nat.zero_le _, Nat.zero_le _⟩) hS (fun H locs hH hS => ?_)
      refine lv_istore (lv' := [(4, .int r12), (0, .ref (E.2.1 147)), (1, .int a1), (2, .int x4), (3, .int x5)]) hx hb dX12_game_32 hl (by decide) rfl (fun ls hl => ?_)
      refine lv_iload_n hx hb dX12_game_34 rfl (lv_at hl 3 rfl) ?_
      refine lv_aload_n hx hb dX12_game_35 rfl (lv_at hl 1 rfl) ?_
      refine lv_iload_n hx hb dX12_game_36 rfl (lv_at hl 2 rfl) ?_
      refine lv_iload_n hx hb dX12_game_37 rfl (lv_at hl 4 rfl) ?_
      refine lv_iconst (v := 1) hx hb dX12_game_38 (by decide) ?_
      refine lv_ixor hx hb dX12_game_39 ?_
      refine mt_b1I hf (fun r14 hg13 hf => ?_)
      refine mt_goi (mt_runS (As := [.int (x5 ^^^ (1 : Int32))]) (rest := [.int a1, .ref (E.2.1 147), .int x4]) ⟨hx, hb, hml, hown, hts⟩ hI hH (c_X12_bits l E (x5 ^^^ (1 : Int32)) M u _ hg13) (va_cwS 1 hts gX12_game_X12_bits rfl rfl rfl (by decide +kernel) ⟨Nat.le_of_ble_eq_true rfl, Nat.le_of_ble_eq_true rfl⟩) rfl hl.1 rfl (Nat.le_of_ble_eq_true rfl) dX12_game_40 ⟨Nat.zero_le _, Nat.zero_le _⟩) hS (fun H locs hH hS => ?_)
      refine mt_b1I hf (fun r16 hg15 hf => ?_)
      refine mt_goi (mt_runV (i := 147) (As := [.int a1, .int r14]) (rest := [.int x4]) ⟨hx, hb, hml, hown, hts⟩ hI hH (c_X12_harmOf l E a1 r14 M u _ hg15) (cwV 2 hts gX12_game_X12_harmOf rfl rfl rfl (by decide +kernel) ⟨Nat.le_of_ble_eq_true rfl, Nat.le_of_ble_eq_true rfl⟩) mt_T147 rfl rfl hl.1 rfl (Nat.le_of_ble_eq_true rfl) dX12_game_43 ⟨Nat.zero_le _, Nat.zero_le _⟩) hS (fun H locs hH hS => ?_)
      refine lv_iload hx hb dX12_game_46 (lv_at hl 0 rfl) ?_
      refine mt_jn1 hf (fun (v17 : Int32) => ∀ (H : Heap) (locs : List Loc) (ls : Array Slot), mt_H E M u H → va_S (mt_A E) s.heap H locs → lv_has ls 5 [(0, .ref (E.2.1 147)), (1, .int a1), (3, .int x5)] → W p l e (headSpec wsX12_game ({ frames := 2, cells := 0, slots := 0, locals := 44 } : Room)).room s mid (([.ref (E.2.1 147), .int a1] : List Value).toArray) below meth c0 H locs 0 0 (MQ below (mt_Qi E r M' u) (([.ref (E.2.1 147), .int a1] : List Value).toArray) s 0 0 (mt_A E)) (F0 mid 74 ls [.int v17, .int x4])) ?_ ?_
      · intro v17 hf H locs ls hH hS hl
        refine lv_ior hx hb dX12_game_74 ?_
        refine mt_lti hf (fun x20 ex20 hf => ?_)
        refine lv_istore_n (lv' := [(2, .int x20), (0, .ref (E.2.1 147)), (1, .int a1), (3, .int x5)]) hx hb dX12_game_75 rfl hl (by decide) rfl (fun ls hl => ?_)
        refine mt_ltI hf (fun x21 ex21 hf => ?_)
        refine lv_iinc (v := x21) (lv' := [(3, .int x21), (2, .int x20), (0, .ref (E.2.1 147)), (1, .int a1)]) hx hb dX12_game_76 hl (k := 3) rfl (by rw [ex21]; rfl) (by decide) rfl (fun ls hl => ?_)
        refine lv_goto (tgt := 18) hx hb dX12_game_79 (by decide) ?_
        exact ih7 x20 x21 hf _ _ _ hH hS (lv_sub hl [2, 3, 1, 0] rfl)
      · intro j18 hj19 hf
        refine mt_jn0 hf (∀ (H : Heap) (locs : List Loc) (ls : Array Slot), mt_H E M u H → va_S (mt_A E) s.heap H locs → lv_has ls 5 [(0, .ref (E.2.1 147)), (1, .int a1), (3, .int x5)] → W p l e (headSpec wsX12_game ({ frames := 2, cells := 0, slots := 0, locals := 44 } : Room)).room s mid (([.ref (E.2.1 147), .int a1] : List Value).toArray) below meth c0 H locs 0 0 (MQ below (mt_Qi E r M' u) (([.ref (E.2.1 147), .int a1] : List Value).toArray) s 0 0 (mt_A E)) (F0 mid 73 ls [.int x4])) ?_ ?_
        · intro hf H locs ls hH hS hl
          refine lv_iconst (v := 0) hx hb dX12_game_73 (by decide) ?_
          exact hj19 (0 : Int32) hf _ _ _ hH hS (lv_sub hl [0, 1, 2] rfl)
        · intro j22 hj23 hf
          refine lv_icmp_lt (tgt := 73) hx hb dX12_game_48 (by decide) (fun c24 => ?_) (fun c24 => ?_)
          · have hf := mt_ifT c24 hf
            exact hj23 hf _ _ _ hH hS (lv_sub hl [1, 2, 4] rfl)
          · have hf := mt_ifF c24 hf
            refine lv_aload_n hx hb dX12_game_51 rfl (lv_at hl 1 rfl) ?_
            refine lv_iload_n hx hb dX12_game_52 rfl (lv_at hl 2 rfl) ?_
            refine lv_iload_n hx hb dX12_game_53 rfl (lv_at hl 4 rfl) ?_
            refine lv_iconst (v := 2) hx hb dX12_game_54 (by decide) ?_
            refine lv_ixor hx hb dX12_game_55 ?_
            refine mt_b1I hf (fun r26 hg25 hf => ?_)
            refine mt_goi (mt_runS (As := [.int (x5 ^^^ (2 : Int32))]) (rest := [.int a1, .ref (E.2.1 147), .int x4]) ⟨hx, hb, hml, hown, hts⟩ hI hH (c_X12_bits l E (x5 ^^^ (2 : Int32)) M u _ hg25) (va_cwS 1 hts gX12_game_X12_bits rfl rfl rfl (by decide +kernel) ⟨Nat.le_of_ble_eq_true rfl, Nat.le_of_ble_eq_true rfl⟩) rfl hl.1 rfl (Nat.le_of_ble_eq_true rfl) dX12_game_56 ⟨Nat.zero_le _, Nat.zero_le _⟩) hS (fun H locs hH hS => ?_)
            refine mt_b1I hf (fun r28 hg27 hf => ?_)
            refine mt_goi (mt_runV (i := 147) (As := [.int a1, .int r26]) (rest := [.int x4]) ⟨hx, hb, hml, hown, hts⟩ hI hH (c_X12_harmOf l E a1 r26 M u _ hg27) (cwV 2 hts gX12_game_X12_harmOf rfl rfl rfl (by decide +kernel) ⟨Nat.le_of_ble_eq_true rfl, Nat.le_of_ble_eq_true rfl⟩) mt_T147 rfl rfl hl.1 rfl (Nat.le_of_ble_eq_true rfl) dX12_game_59 ⟨Nat.zero_le _, Nat.zero_le _⟩) hS (fun H locs hH hS => ?_)
            refine lv_iload hx hb dX12_game_62 (lv_at hl 0 rfl) ?_
            refine lv_icmp_lt (tgt := 73) hx hb dX12_game_64 (by decide) (fun c29 => ?_) (fun c29 => ?_)
            · have hf := mt_ifT c29 hf
              exact hj23 hf _ _ _ hH hS (lv_sub hl [1, 2, 4] rfl)
            · have hf := mt_ifF c29 hf
              refine lv_iconst (v := 1) hx hb dX12_game_67 (by decide) ?_
              refine lv_iload_n hx hb dX12_game_68 rfl (lv_at hl 4 rfl) ?_
              refine lv_ishl hx hb dX12_game_69 ?_
              refine lv_goto (tgt := 74) hx hb dX12_game_70 (by decide) ?_
              exact hj19 ((1 : Int32) <<< (x5 &&& 31)) hf _ _ _ hH hS (lv_sub hl [1, 2, 4] rfl)
  · have hf := mt_ifT c3 hf
    refine lv_aload_n hx hb dX12_game_8 rfl (lv_at hl 0 rfl) ?_
    refine lv_iconst (v := (-1)) hx hb dX12_game_9 (by decide) ?_
    refine mt_b2I hf (fun r31 M32 hg30 hf => ?_)
    refine mt_goi (mt_runV (i := 147) (As := [.int (-1 : Int32)]) (rest := []) ⟨hx, hb, hml, hown, hts⟩ hI hH (c_X12_no l E (-1 : Int32) M u _ _ hg30) (cwV 1 hts gX12_game_X12_no rfl rfl rfl (by decide +kernel) ⟨Nat.le_of_ble_eq_true rfl, Nat.le_of_ble_eq_true rfl⟩) mt_T147 rfl rfl hl.1 rfl (Nat.le_of_ble_eq_true rfl) dX12_game_10 ⟨Nat.zero_le _, Nat.zero_le _⟩) hS (fun H locs hH hS => ?_)
    obtain ⟨i1, i2⟩ := mt_so2 hf
    subst i1
    subst i2
    exact mt_iret hx hb hr hI hH hS hlocks dX12_game_13
set_option maxHeartbeats 4000000 in
set_option maxRecDepth 100000 in
theorem c_X12_all (l : Launch) (E : mt_E) (a1 : Int32) (a2 : Int32) (a3 : Int32) (M : mt_M) (u : mt_U) (r : Int32) (M' : mt_M) (hf : f_X12_all a1 a2 a3 M = some (r, M')) : Met l yX12_all wsX12_all ({ frames := 3, cells := 0, slots := 0, locals := 73 } : Room) (mt_P E [.ref (E.2.1 147), .int a1, .int a2, .int a3] M u) (mt_Qi E r M' u) 0 0 (mt_A E) := by
  refine Met.ofW (cc := cX12_all) (maxL := 9) (ret := (some .int)) (by decide) rfl ?_
  intro p e s mid args below meth c0 s₁ B hml hv
  obtain ⟨rfl, hI, hH⟩ := hv
  have hx := B.exec
  have hb := B.bytes
  have hr := B.returns
  have hts := atoms_spec (ws := wsX12_all) B.pre
  have hown : s.vm.findClass RX12 = some mid.cls := findClass_of_methodNamed B.named
  have hlocks := B.notSynchronized
  have hS : va_S (mt_A E) s.heap s.heap [] := va_S.rf
  have hl := lv_entry ([.ref (E.2.1 147), .int a1, .int a2, .int a3]) (n := 9) (Nat.le_of_ble_eq_true rfl)
  rw [lg_entry_eq]
  generalize (lg_sl ([.ref (E.2.1 147), .int a1, .int a2, .int a3]) ++ List.replicate (9 - (lg_sl ([.ref (E.2.1 147), .int a1, .int a2, .int a3])).length) Slot.unset).toArray = ls at hl ⊢
  have hl : lv_has ls 9 [(0, .ref (E.2.1 147)), (1, .int a1), (2, .int a2), (3, .int a3)] := hl
  unfold f_X12_all at hf
  have kw0 := hts (.fieldLink RX12 59 "MilkTwiceModel" "things" "I") (List.mem_of_getElem? (i := 1) rfl)
  have hinX12 : ∀ w ∈ u_ws RX12 TX12 29, w ∈ wsX12_all := fun w h => List.mem_cons_of_mem _ (List.mem_append_right _ h)
  refine lv_iload_n hx hb dX12_all_0 rfl (lv_at hl 1 rfl) ?_
  refine lv_iload_n hx hb dX12_all_1 rfl (lv_at hl 2 rfl) ?_
  refine mt_b1I hf (fun r2 hg1 hf => ?_)
  refine mt_goi (mt_runS (As := [.int a1, .int a2]) (rest := []) ⟨hx, hb, hml, hown, hts⟩ hI hH (c_X12_notTenths l E a1 a2 M u _ hg1) (va_cwS 2 hts gX12_all_X12_notTenths rfl rfl rfl (by decide +kernel) ⟨Nat.le_of_ble_eq_true rfl, Nat.le_of_ble_eq_true rfl⟩) rfl hl.1 rfl (Nat.le_of_ble_eq_true rfl) dX12_all_2 ⟨Nat.zero_le _, Nat.zero_le _⟩) hS (fun H locs hH hS => ?_)
  refine lv_istore (lv' := [(4, .int r2), (0, .ref (E.2.1 147)), (1, .int a1), (2, .int a2), (3, .int a3)]) hx hb dX12_all_5 hl (by decide) rfl (fun ls hl => ?_)
  refine lv_iload hx hb dX12_all_7 (lv_at hl 0 rfl) ?_
  refine mt_jn1 hf (fun (x3 : Int32) => ∀ (H : Heap) (locs : List Loc) (ls : Array Slot), mt_H E M u H → va_S (mt_A E) s.heap H locs → lv_has ls 9 [(0, .ref (E.2.1 147)), (1, .int a1), (2, .int a2), (3, .int a3), (4, .int x3)] → W p l e (headSpec wsX12_all ({ frames := 3, cells := 0, slots := 0, locals := 73 } : Room)).room s mid (([.ref (E.2.1 147), .int a1, .int a2, .int a3] : List Value).toArray) below meth c0 H locs 0 0 (MQ below (mt_Qi E r M' u) (([.ref (E.2.1 147), .int a1, .int a2, .int a3] : List Value).toArray) s 0 0 (mt_A E)) (F0 mid 25 ls [])) ?_ ?_
  · intro x3 hf H locs ls hH hS hl
    refine lv_iload hx hb dX12_all_25 (lv_at hl 4 rfl) ?_
    refine lv_if_eq (tgt := 37) hx hb dX12_all_27 (by decide) (fun c6 => ?_) (fun c6 => ?_)
    · have hf := mt_ifT c6 hf
      refine lv_iconst (v := 0) hx hb dX12_all_37 (by decide) ?_
      refine lv_istore (lv' := [(5, .int (0 : Int32)), (0, .ref (E.2.1 147)), (1, .int a1), (2, .int a2), (3, .int a3), (4, .int x3)]) hx hb dX12_all_38 hl (by decide) rfl (fun ls hl => ?_)
      refine lv_iconst (v := 0) hx hb dX12_all_40 (by decide) ?_
      refine lv_istore (lv' := [(6, .int (0 : Int32)), (5, .int (0 : Int32)), (0, .ref (E.2.1 147)), (1, .int a1), (2, .int a2), (3, .int a3), (4, .int x3)]) hx hb dX12_all_41 hl (by decide) rfl (fun ls hl => ?_)
      refine lv_iconst (v := 0) hx hb dX12_all_43 (by decide) ?_
      refine lv_istore (lv' := [(7, .int (0 : Int32)), (6, .int (0 : Int32)), (5, .int (0 : Int32)), (0, .ref (E.2.1 147)), (1, .int a1), (2, .int a2), (3, .int a3), (4, .int x3)]) hx hb dX12_all_44 hl (by decide) rfl (fun ls hl => ?_)
      refine mt_lpI3 hf (fun (x7 : Int32) (x8 : Int32) (x9 : Int32) => ∀ (H : Heap) (locs : List Loc) (ls : Array Slot), mt_H E M u H → va_S (mt_A E) s.heap H locs → lv_has ls 9 [(0, .ref (E.2.1 147)), (1, .int a1), (2, .int a2), (3, .int a3), (5, .int x7), (6, .int x8), (7, .int x9)] → W p l e (headSpec wsX12_all ({ frames := 3, cells := 0, slots := 0, locals := 73 } : Room)).room s mid (([.ref (E.2.1 147), .int a1, .int a2, .int a3] : List Value).toArray) below meth c0 H locs 0 0 (MQ below (mt_Qi E r M' u) (([.ref (E.2.1 147), .int a1, .int a2, .int a3] : List Value).toArray) s 0 0 (mt_A E)) (F0 mid 46 ls [])) ?_ _ _ _ hH hS (lv_sub hl [3, 4, 5, 6, 2, 1, 0] rfl)
      intro k10 ih11 x7 x8 x9 hf H locs ls hH hS hl
      refine lv_iload hx hb dX12_all_46 (lv_at hl 6 rfl) ?_
      refine lv_aload_n hx hb dX12_all_48 rfl (lv_at hl 0 rfl) ?_
      refine mt_geti (C := RX12) (T := TX12) (N := 29) hx hb hts hinX12 hown hI hH mt_T147 rfl 8 (by decide) kw0 rfl rfl dX12_all_49 ?_
      refine lv_icmp_ge (tgt := 130) hx hb dX12_all_52 (by decide) (fun c12 => ?_) (fun c12 => ?_)
      · have hf := mt_ifT c12 hf
        refine lv_iload_n hx hb dX12_all_130 rfl (lv_at hl 3 rfl) ?_
        refine lv_if_ne (tgt := 139) hx hb dX12_all_131 (by decide) (fun c13 => ?_) (fun c13 => ?_)
        · have hf := mt_ifF c13 hf
          refine lv_iload hx hb dX12_all_139 (lv_at hl 5 rfl) ?_
          obtain ⟨i1, i2⟩ := mt_so2 hf
          subst i1
          subst i2
          exact mt_iret hx hb hr hI hH hS hlocks dX12_all_141
        · have hf := mt_ifT c13 hf
          refine lv_iload hx hb dX12_all_134 (lv_at hl 4 rfl) ?_
          refine lv_goto (tgt := 141) hx hb dX12_all_136 (by decide) ?_
          obtain ⟨i1, i2⟩ := mt_so2 hf
          subst i1
          subst i2
          exact mt_iret hx hb hr hI hH hS hlocks dX12_all_141
      · have hf := mt_ifF c12 hf
        refine lv_aload_n hx hb dX12_all_55 rfl (lv_at hl 0 rfl) ?_
        refine lv_iload hx hb dX12_all_56 (lv_at hl 6 rfl) ?_
        refine lv_iload_n hx hb dX12_all_58 rfl (lv_at hl 1 rfl) ?_
        refine lv_iload_n hx hb dX12_all_59 rfl (lv_at hl 2 rfl) ?_
        refine lv_iconst (v := 2) hx hb dX12_all_60 (by decide) ?_
        refine mt_b1I hf (fun r15 hg14 hf => ?_)
        refine mt_goi (mt_runV (i := 147) (As := [.int x9, .int a1, .int a2, .int (2 : Int32)]) (rest := []) ⟨hx, hb, hml, hown, hts⟩ hI hH (c_X12_meanBy l E x9 a1 a2 (2 : Int32) M u _ hg14) (cwV 4 hts gX12_all_X12_meanBy rfl rfl rfl (by decide +kernel) ⟨Nat.le_of_ble_eq_true rfl, Nat.le_of_ble_eq_true rfl⟩) mt_T147 rfl rfl hl.1 rfl (Nat.le_of_ble_eq_true rfl) dX12_all_61 ⟨Nat.zero_le _, Nat.zero_le _⟩) hS (fun H locs hH hS => ?_)
        refine lv_aload_n hx hb dX12_all_64 rfl (lv_at hl 0 rfl) ?_
        refine lv_iload hx hb dX12_all_65 (lv_at hl 6 rfl) ?_
        refine lv_iload_n hx hb dX12_all_67 rfl (lv_at hl 1 rfl) ?_
        refine lv_iload_n hx hb dX12_all_68 rfl (lv_at hl 2 rfl) ?_
        refine lv_iconst (v := 1) hx hb dX12_all_69 (by decide) ?_
        refine mt_b1I hf (fun r17 hg16 hf => ?_)
        refine mt_goi (mt_runV (i := 147) (As := [.int x9, .int a1, .int a2, .int (1 : Int32)]) (rest := [.int r15]) ⟨hx, hb, hml, hown, hts⟩ hI hH (c_X12_meanBy l E x9 a1 a2 (1 : Int32) M u _ hg16) (cwV 4 hts gX12_all_X12_meanBy rfl rfl rfl (by decide +kernel) ⟨Nat.le_of_ble_eq_true rfl, Nat.le_of_ble_eq_true rfl⟩) mt_T147 rfl rfl hl.1 rfl (Nat.le_of_ble_eq_true rfl) dX12_all_70 ⟨Nat.zero_le _, Nat.zero_le _⟩) hS (fun H locs hH hS => ?_)
        refine mt_jn1 hf (fun (v18 : Int32) => ∀ (H : Heap) (locs : List Loc) (ls : Array Slot), mt_H E M u H → va_S (mt_A E) s.heap H locs → lv_has ls 9 [(0, .ref (E.2.1 147)), (1, .int a1), (2, .int a2), (3, .int a3), (5, .int x7), (6, .int x8), (7, .int x9)] → W p l e (headSpec wsX12_all ({ frames := 3, cells := 0, slots := 0, locals := 73 } : Room)).room s mid (([.ref (E.2.1 147), .int a1, .int a2, .int a3] : List Value).toArray) below meth c0 H locs 0 0 (MQ below (mt_Qi E r M' u) (([.ref (E.2.1 147), .int a1, .int a2, .int a3] : List Value).toArray) s 0 0 (mt_A E)) (F0 mid 81 ls [.int v18])) ?_ ?_
        · intro v18 hf H locs ls hH hS hl
          refine lv_istore (lv' := [(8, .int v18), (0, .ref (E.2.1 147)), (1, .int a1), (2, .int a2), (3, .int a3), (5, .int x7), (6, .int x8), (7, .int x9)]) hx hb dX12_all_81 hl (by decide) rfl (fun ls hl => ?_)
          refine lv_iload hx hb dX12_all_83 (lv_at hl 5 rfl) ?_
          refine lv_iload hx hb dX12_all_85 (lv_at hl 0 rfl) ?_
          refine mt_jn1 hf (fun (v21 : Int32) => ∀ (H : Heap) (locs : List Loc) (ls : Array Slot), mt_H E M u H → va_S (mt_A E) s.heap H locs → lv_has ls 9 [(0, .ref (E.2.1 147)), (1, .int a1), (2, .int a2), (3, .int a3), (6, .int x8), (7, .int x9), (8, .int v18)] → W p l e (headSpec wsX12_all ({ frames := 3, cells := 0, slots := 0, locals := 73 } : Room)).room s mid (([.ref (E.2.1 147), .int a1, .int a2, .int a3] : List Value).toArray) below meth c0 H locs 0 0 (MQ below (mt_Qi E r M' u) (([.ref (E.2.1 147), .int a1, .int a2, .int a3] : List Value).toArray) s 0 0 (mt_A E)) (F0 mid 98 ls [.int v21, .int x7])) ?_ ?_
          · intro v21 hf H locs ls hH hS hl
            refine lv_ior hx hb dX12_all_98 ?_
            refine mt_lti hf (fun x24 ex24 hf => ?_)
            refine lv_istore (lv' := [(5, .int x24), (0, .ref (E.2.1 147)), (1, .int a1), (2, .int a2), (3, .int a3), (6, .int x8), (7, .int x9), (8, .int v18)]) hx hb dX12_all_99 hl (by decide) rfl (fun ls hl => ?_)
            refine lv_iload hx hb dX12_all_101 (lv_at hl 5 rfl) ?_
            refine lv_aload_n hx hb dX12_all_103 rfl (lv_at hl 1 rfl) ?_
            refine lv_iload hx hb dX12_all_104 (lv_at hl 6 rfl) ?_
            refine lv_iload_n hx hb dX12_all_106 rfl (lv_at hl 2 rfl) ?_
            refine lv_iload_n hx hb dX12_all_107 rfl (lv_at hl 3 rfl) ?_
            refine lv_iload hx hb dX12_all_108 (lv_at hl 7 rfl) ?_
            refine mt_jn1 hf (fun (v25 : Int32) => ∀ (H : Heap) (locs : List Loc) (ls : Array Slot), mt_H E M u H → va_S (mt_A E) s.heap H locs → lv_has ls 9 [(0, .ref (E.2.1 147)), (1, .int a1), (2, .int a2), (3, .int a3), (5, .int x24), (7, .int x9)] → W p l e (headSpec wsX12_all ({ frames := 3, cells := 0, slots := 0, locals := 73 } : Room)).room s mid (([.ref (E.2.1 147), .int a1, .int a2, .int a3] : List Value).toArray) below meth c0 H locs 0 0 (MQ below (mt_Qi E r M' u) (([.ref (E.2.1 147), .int a1, .int a2, .int a3] : List Value).toArray) s 0 0 (mt_A E)) (F0 mid 118 ls [.int v25, .int a2, .int a1, .int x9, .ref (E.2.1 147), .int x8])) ?_ ?_
            · intro v25 hf H locs ls hH hS hl
              refine mt_b1I hf (fun r29 hg28 hf => ?_)
              refine mt_goi (mt_runV (i := 147) (As := [.int x9, .int a1, .int a2, .int v25]) (rest := [.int x8]) ⟨hx, hb, hml, hown, hts⟩ hI hH (c_X12_meanBy l E x9 a1 a2 v25 M u _ hg28) (cwV 4 hts gX12_all_X12_meanBy rfl rfl rfl (by decide +kernel) ⟨Nat.le_of_ble_eq_true rfl, Nat.le_of_ble_eq_true rfl⟩) mt_T147 rfl rfl hl.1 rfl (Nat.le_of_ble_eq_true rfl) dX12_all_118 ⟨Nat.zero_le _, Nat.zero_le _⟩) hS (fun H locs hH hS => ?_)
              refine lv_iadd hx hb dX12_all_121 ?_
              refine mt_lti hf (fun x30 ex30 hf => ?_)
              refine lv_istore (lv' := [(6, .int x30), (0, .ref (E.2.1 147)), (1, .int a1), (2, .int a2), (3, .int a3), (5, .int x24), (7, .int x9)]) hx hb dX12_all_122 hl (by decide) rfl (fun ls hl => ?_)
              refine mt_ltI hf (fun x31 ex31 hf => ?_)
              refine lv_iinc (v := x31) (lv' := [(7, .int x31), (6, .int x30), (0, .ref (E.2.1 147)), (1, .int a1), (2, .int a2), (3, .int a3), (5, .int x24)]) hx hb dX12_all_124 hl (k := 6) rfl (by rw [ex31]; rfl) (by decide) rfl (fun ls hl => ?_)
              refine lv_goto (tgt := 46) hx hb dX12_all_127 (by decide) ?_
              exact ih11 x24 x30 x31 hf _ _ _ hH hS (lv_sub hl [2, 3, 4, 5, 6, 1, 0] rfl)
            · intro j26 hj27 hf
              refine lv_if_eq (tgt := 117) hx hb dX12_all_110 (by decide) (fun c32 => ?_) (fun c32 => ?_)
              · have hf := mt_ifT c32 hf
                refine lv_iconst (v := 1) hx hb dX12_all_117 (by decide) ?_
                exact hj27 (1 : Int32) hf _ _ _ hH hS (lv_sub hl [1, 2, 3, 4, 0, 6] rfl)
              · have hf := mt_ifF c32 hf
                refine lv_iconst (v := 2) hx hb dX12_all_113 (by decide) ?_
                refine lv_goto (tgt := 118) hx hb dX12_all_114 (by decide) ?_
                exact hj27 (2 : Int32) hf _ _ _ hH hS (lv_sub hl [1, 2, 3, 4, 0, 6] rfl)
          · intro j22 hj23 hf
            refine lv_if_eq (tgt := 97) hx hb dX12_all_87 (by decide) (fun c33 => ?_) (fun c33 => ?_)
            · have hf := mt_ifT c33 hf
              refine lv_iconst (v := 0) hx hb dX12_all_97 (by decide) ?_
              exact hj23 (0 : Int32) hf _ _ _ hH hS (lv_sub hl [1, 2, 3, 4, 6, 7, 0] rfl)
            · have hf := mt_ifF c33 hf
              refine lv_iconst (v := 1) hx hb dX12_all_90 (by decide) ?_
              refine lv_iload hx hb dX12_all_91 (lv_at hl 7 rfl) ?_
              refine lv_ishl hx hb dX12_all_93 ?_
              refine lv_goto (tgt := 98) hx hb dX12_all_94 (by decide) ?_
              exact hj23 ((1 : Int32) <<< (x9 &&& 31)) hf _ _ _ hH hS (lv_sub hl [1, 2, 3, 4, 6, 7, 0] rfl)
        · intro j19 hj20 hf
          refine lv_icmp_ge (tgt := 80) hx hb dX12_all_73 (by decide) (fun c34 => ?_) (fun c34 => ?_)
          · have hf := mt_ifT c34 hf
            refine lv_iconst (v := 0) hx hb dX12_all_80 (by decide) ?_
            exact hj20 (0 : Int32) hf _ _ _ hH hS (lv_sub hl [0, 1, 2, 3, 4, 5, 6] rfl)
          · have hf := mt_ifF c34 hf
            refine lv_iconst (v := 1) hx hb dX12_all_76 (by decide) ?_
            refine lv_goto (tgt := 81) hx hb dX12_all_77 (by decide) ?_
            exact hj20 (1 : Int32) hf _ _ _ hH hS (lv_sub hl [0, 1, 2, 3, 4, 5, 6] rfl)
    · have hf := mt_ifF c6 hf
      refine lv_aload_n hx hb dX12_all_30 rfl (lv_at hl 0 rfl) ?_
      refine lv_iload hx hb dX12_all_31 (lv_at hl 4 rfl) ?_
      refine mt_b2I hf (fun r36 M37 hg35 hf => ?_)
      refine mt_goi (mt_runV (i := 147) (As := [.int x3]) (rest := []) ⟨hx, hb, hml, hown, hts⟩ hI hH (c_X12_no l E x3 M u _ _ hg35) (cwV 1 hts gX12_all_X12_no rfl rfl rfl (by decide +kernel) ⟨Nat.le_of_ble_eq_true rfl, Nat.le_of_ble_eq_true rfl⟩) mt_T147 rfl rfl hl.1 rfl (Nat.le_of_ble_eq_true rfl) dX12_all_33 ⟨Nat.zero_le _, Nat.zero_le _⟩) hS (fun H locs hH hS => ?_)
      obtain ⟨i1, i2⟩ := mt_so2 hf
      subst i1
      subst i2
      exact mt_iret hx hb hr hI hH hS hlocks dX12_all_36
  · intro j4 hj5 hf
    refine lv_if_ne (tgt := 25) hx hb dX12_all_9 (by decide) (fun c38 => ?_) (fun c38 => ?_)
    · have hf := mt_ifF c38 hf
      exact hj5 r2 hf _ _ _ hH hS (lv_sub hl [1, 2, 3, 4, 0] rfl)
    · have hf := mt_ifT c38 hf
      refine lv_iload_n hx hb dX12_all_12 rfl (lv_at hl 4 rfl) ?_
      refine lv_iconst (v := 0) hx hb dX12_all_13 (by decide) ?_
      refine lv_iconst (v := 1) hx hb dX12_all_14 (by decide) ?_
      refine mt_b1I hf (fun r40 hg39 hf => ?_)
      refine mt_goi (mt_runS (As := [.int a3, .int (0 : Int32), .int (1 : Int32)]) (rest := []) ⟨hx, hb, hml, hown, hts⟩ hI hH (c_X12_isIn l E a3 (0 : Int32) (1 : Int32) M u _ hg39) (va_cwS 3 hts gX12_all_X12_isIn rfl rfl rfl (by decide +kernel) ⟨Nat.le_of_ble_eq_true rfl, Nat.le_of_ble_eq_true rfl⟩) rfl hl.1 rfl (Nat.le_of_ble_eq_true rfl) dX12_all_15 ⟨Nat.zero_le _, Nat.zero_le _⟩) hS (fun H locs hH hS => ?_)
      refine lv_if_ne (tgt := 25) hx hb dX12_all_18 (by decide) (fun c41 => ?_) (fun c41 => ?_)
      · have hf := mt_ifF c41 hf
        exact hj5 r2 hf _ _ _ hH hS (lv_sub hl [1, 2, 3, 4, 0] rfl)
      · have hf := mt_ifT c41 hf
        refine lv_bipush (v := (-2)) hx hb dX12_all_21 (by decide) ?_
        refine lv_istore (lv' := [(4, .int (-2 : Int32)), (0, .ref (E.2.1 147)), (1, .int a1), (2, .int a2), (3, .int a3)]) hx hb dX12_all_23 hl (by decide) rfl (fun ls hl => ?_)
        exact hj5 (-2 : Int32) hf _ _ _ hH hS (lv_sub hl [1, 2, 3, 4, 0] rfl)
set_option maxHeartbeats 4000000 in
set_option maxRecDepth 100000 in
theorem c_X12_divisor (l : Launch) (E : mt_E) (a0 : Int64) (a2 : Int64) (M : mt_M) (u : mt_U) (r : Int64) (hf : f_X12_divisor a0 a2 = some (r)) : Met l yX12_divisor wsX12_divisor ({ frames := 0, cells := 0, slots := 0, locals := 0 } : Room) (mt_P E [.long a0, .long a2] M u) (mt_Ql E r M u) 0 0 (mt_A E) := by
  refine Met.ofW (cc := cX12_divisor) (maxL := 10) (ret := (some .long)) (by decide) rfl ?_
  intro p e s mid args below meth c0 s₁ B hml hv
  obtain ⟨rfl, hI, hH⟩ := hv
  have hx := B.exec
  have hb := B.bytes
  have hr := B.returns
  have hts := atoms_spec (ws := wsX12_divisor) B.pre
  have hown : s.vm.findClass RX12 = some mid.cls := findClass_of_methodNamed B.named
  have hlocks := B.notSynchronized
  have hS : va_S (mt_A E) s.heap s.heap [] := va_S.rf
  have hl := lv_entry ([.long a0, .long a2]) (n := 10) (Nat.le_of_ble_eq_true rfl)
  rw [lg_entry_eq]
  generalize (lg_sl ([.long a0, .long a2]) ++ List.replicate (10 - (lg_sl ([.long a0, .long a2])).length) Slot.unset).toArray = ls at hl ⊢
  have hl : lv_has ls 10 [(0, .long a0), (2, .long a2)] := hl
  unfold f_X12_divisor at hf
  refine lv_lload_n hx hb dX12_divisor_0 rfl (lv_at hl 0 rfl) ?_
  refine lv_lstore (lv' := [(4, .long a0), (0, .long a0), (2, .long a2)]) hx hb dX12_divisor_1 hl (by decide) rfl (fun ls hl => ?_)
  refine lv_lload_n hx hb dX12_divisor_3 rfl (lv_at hl 2 rfl) ?_
  refine lv_lstore (lv' := [(6, .long a2), (4, .long a0), (0, .long a0), (2, .long a2)]) hx hb dX12_divisor_4 hl (by decide) rfl (fun ls hl => ?_)
  refine mt_lpI2 hf (fun (x1 : Int64) (x2 : Int64) => ∀ (H : Heap) (locs : List Loc) (ls : Array Slot), mt_H E M u H → va_S (mt_A E) s.heap H locs → lv_has ls 10 [(4, .long x1), (6, .long x2)] → W p l e (headSpec wsX12_divisor ({ frames := 0, cells := 0, slots := 0, locals := 0 } : Room)).room s mid (([.long a0, .long a2] : List Value).toArray) below meth c0 H locs 0 0 (MQ below (mt_Ql E r M u) (([.long a0, .long a2] : List Value).toArray) s 0 0 (mt_A E)) (F0 mid 6 ls [])) ?_ _ _ _ hH hS (lv_sub hl [1, 0] rfl)
  intro k3 ih4 x1 x2 hf H locs ls hH hS hl
  refine lv_lload hx hb dX12_divisor_6 (lv_at hl 1 rfl) ?_
  refine lv_lconst (v := 0) hx hb dX12_divisor_8 (by decide) ?_
  refine W.lcmp hx hb dX12_divisor_9 ?_
  refine lv_if_eq (tgt := 31) hx hb dX12_divisor_10 (by decide) (fun c5 => ?_) (fun c5 => ?_)
  · have hf := mt_ifT c5 hf
    refine lv_lload hx hb dX12_divisor_31 (lv_at hl 0 rfl) ?_
    have i1 := mt_so1 hf
    subst i1
    exact mt_lret hx hb hr hI hH hS hlocks dX12_divisor_33
  · have hf := mt_ifF c5 hf
    refine lv_lload hx hb dX12_divisor_13 (lv_at hl 0 rfl) ?_
    refine lv_lload hx hb dX12_divisor_15 (lv_at hl 1 rfl) ?_
    refine mt_ckI hf (fun q6 hf => ?_)
    refine lv_lrem hx hb dX12_divisor_17 q6 ?_
    refine mt_ltl hf (fun x7 ex7 hf => ?_)
    refine lv_lstore (lv' := [(8, .long x7), (4, .long x1), (6, .long x2)]) hx hb dX12_divisor_18 hl (by decide) rfl (fun ls hl => ?_)
    refine lv_lload hx hb dX12_divisor_20 (lv_at hl 2 rfl) ?_
    refine lv_lstore (lv' := [(4, .long x2), (8, .long x7), (6, .long x2)]) hx hb dX12_divisor_22 hl (by decide) rfl (fun ls hl => ?_)
    refine lv_lload hx hb dX12_divisor_24 (lv_at hl 1 rfl) ?_
    refine lv_lstore (lv' := [(6, .long x7), (4, .long x2), (8, .long x7)]) hx hb dX12_divisor_26 hl (by decide) rfl (fun ls hl => ?_)
    refine lv_goto (tgt := 6) hx hb dX12_divisor_28 (by decide) ?_
    exact ih4 x2 x7 hf _ _ _ hH hS (lv_sub hl [1, 0] rfl)
set_option maxHeartbeats 4000000 in
set_option maxRecDepth 100000 in
theorem c_X12_partOf (l : Launch) (E : mt_E) (a0 : Int64) (a2 : Int64) (a4 : Int32) (M : mt_M) (u : mt_U) (r : Int64) (hf : f_X12_partOf a0 a2 a4 = some (r)) : Met l yX12_partOf wsX12_partOf ({ frames := 1, cells := 0, slots := 0, locals := 29 } : Room) (mt_P E [.long a0, .long a2, .int a4] M u) (mt_Ql E r M u) 0 0 (mt_A E) := by
  refine Met.ofW (cc := cX12_partOf) (maxL := 5) (ret := (some .long)) (by decide) rfl ?_
  intro p e s mid args below meth c0 s₁ B hml hv
  obtain ⟨rfl, hI, hH⟩ := hv
  have hx := B.exec
  have hb := B.bytes
  have hr := B.returns
  have hts := atoms_spec (ws := wsX12_partOf) B.pre
  have hown : s.vm.findClass RX12 = some mid.cls := findClass_of_methodNamed B.named
  have hlocks := B.notSynchronized
  have hS : va_S (mt_A E) s.heap s.heap [] := va_S.rf
  have hl := lv_entry ([.long a0, .long a2, .int a4]) (n := 5) (Nat.le_of_ble_eq_true rfl)
  rw [lg_entry_eq]
  generalize (lg_sl ([.long a0, .long a2, .int a4]) ++ List.replicate (5 - (lg_sl ([.long a0, .long a2, .int a4])).length) Slot.unset).toArray = ls at hl ⊢
  have hl : lv_has ls 5 [(0, .long a0), (2, .long a2), (4, .int a4)] := hl
  unfold f_X12_partOf at hf
  refine lv_iload hx hb dX12_partOf_0 (lv_at hl 2 rfl) ?_
  refine mt_jn1 hf (fun (v1 : Int64) => ∀ (H : Heap) (locs : List Loc) (ls : Array Slot), mt_H E M u H → va_S (mt_A E) s.heap H locs → lv_has ls 5 [(0, .long a0), (2, .long a2)] → W p l e (headSpec wsX12_partOf ({ frames := 1, cells := 0, slots := 0, locals := 29 } : Room)).room s mid (([.long a0, .long a2, .int a4] : List Value).toArray) below meth c0 H locs 0 0 (MQ below (mt_Ql E r M u) (([.long a0, .long a2, .int a4] : List Value).toArray) s 0 0 (mt_A E)) (F0 mid 10 ls [.long v1])) ?_ ?_
  · intro v1 hf H locs ls hH hS hl
    refine lv_lload_n hx hb dX12_partOf_10 rfl (lv_at hl 0 rfl) ?_
    refine lv_lload_n hx hb dX12_partOf_11 rfl (lv_at hl 1 rfl) ?_
    refine mt_b1I hf (fun r5 hg4 hf => ?_)
    refine mt_gol (mt_runS (As := [.long a0, .long a2]) (rest := [.long v1]) ⟨hx, hb, hml, hown, hts⟩ hI hH (c_X12_divisor l E a0 a2 M u _ hg4) (va_cwS 2 hts gX12_partOf_X12_divisor rfl rfl rfl (by decide +kernel) ⟨Nat.le_of_ble_eq_true rfl, Nat.le_of_ble_eq_true rfl⟩) rfl hl.1 rfl (Nat.le_of_ble_eq_true rfl) dX12_partOf_12 ⟨Nat.zero_le _, Nat.zero_le _⟩) hS (fun H locs hH hS => ?_)
    refine mt_ckI hf (fun q6 hf => ?_)
    refine lv_ldiv hx hb dX12_partOf_15 q6 ?_
    have i1 := mt_so1 hf
    subst i1
    exact mt_lret hx hb hr hI hH hS hlocks dX12_partOf_16
  · intro j2 hj3 hf
    refine lv_if_ne (tgt := 9) hx hb dX12_partOf_2 (by decide) (fun c7 => ?_) (fun c7 => ?_)
    · have hf := mt_ifF c7 hf
      refine lv_lload_n hx hb dX12_partOf_9 rfl (lv_at hl 1 rfl) ?_
      exact hj3 a2 hf _ _ _ hH hS (lv_sub hl [0, 1] rfl)
    · have hf := mt_ifT c7 hf
      refine lv_lload_n hx hb dX12_partOf_5 rfl (lv_at hl 0 rfl) ?_
      refine lv_goto (tgt := 10) hx hb dX12_partOf_6 (by decide) ?_
      exact hj3 a0 hf _ _ _ hH hS (lv_sub hl [0, 1] rfl)
set_option maxHeartbeats 4000000 in
set_option maxRecDepth 100000 in
theorem c_X12_flour (l : Launch) (E : mt_E) (a1 : Int32) (a2 : Int32) (a3 : Int32) (a4 : Int32) (M : mt_M) (u : mt_U) (r : Int64) (M' : mt_M) (u' : mt_U) (hf : f_X12_flour a1 a2 a3 a4 M u = some (r, M', u')) : Met l yX12_flour wsX12_flour ({ frames := 2, cells := 0, slots := 0, locals := 53 } : Room) (mt_P E [.ref (E.2.1 147), .int a1, .int a2, .int a3, .int a4] M u) (mt_Ql E r M' u') 0 0 (mt_A E) := by
  refine Met.ofW (cc := cX12_flour) (maxL := 11) (ret := (some .long)) (by decide) rfl ?_
  intro p e s mid args below meth c0 s₁ B hml hv
  obtain ⟨rfl, hI, hH⟩ := hv
  have hx := B.exec
  have hb := B.bytes
  have hr := B.returns
  have hts := atoms_spec (ws := wsX12_flour) B.pre
  have hown : s.vm.findClass RX12 = some mid.cls := findClass_of_methodNamed B.named
  have hlocks := B.notSynchronized
  have hS : va_S (mt_A E) s.heap s.heap [] := va_S.rf
  have hl := lv_entry ([.ref (E.2.1 147), .int a1, .int a2, .int a3, .int a4]) (n := 11) (Nat.le_of_ble_eq_true rfl)
  rw [lg_entry_eq]
  generalize (lg_sl ([.ref (E.2.1 147), .int a1, .int a2, .int a3, .int a4]) ++ List.replicate (11 - (lg_sl ([.ref (E.2.1 147), .int a1, .int a2, .int a3, .int a4])).length) Slot.unset).toArray = ls at hl ⊢
  have hl : lv_has ls 11 [(0, .ref (E.2.1 147)), (1, .int a1), (2, .int a2), (3, .int a3), (4, .int a4)] := hl
  unfold f_X12_flour at hf
  have kw0 := hts (.fieldLink RX12 49 "MilkTwiceModel" "used" "[J") (List.mem_of_getElem? (i := 1) rfl)
  have kw1 := hts (.constantLong RX12 268 (10)) (List.mem_of_getElem? (i := 2) rfl)
  have hinX12 : ∀ w ∈ u_ws RX12 TX12 29, w ∈ wsX12_flour := fun w h => List.mem_cons_of_mem _ (List.mem_append_right _ h)
  refine lv_iload_n hx hb dX12_flour_0 rfl (lv_at hl 1 rfl) ?_
  refine mt_jn1 hf (fun (v1 : Int32) => ∀ (H : Heap) (locs : List Loc) (ls : Array Slot), mt_H E M u H → va_S (mt_A E) s.heap H locs → lv_has ls 11 [(0, .ref (E.2.1 147)), (1, .int a1), (2, .int a2), (3, .int a3), (4, .int a4)] → W p l e (headSpec wsX12_flour ({ frames := 2, cells := 0, slots := 0, locals := 53 } : Room)).room s mid (([.ref (E.2.1 147), .int a1, .int a2, .int a3, .int a4] : List Value).toArray) below meth c0 H locs 0 0 (MQ below (mt_Ql E r M' u') (([.ref (E.2.1 147), .int a1, .int a2, .int a3, .int a4] : List Value).toArray) s 0 0 (mt_A E)) (F0 mid 56 ls [.int v1])) ?_ ?_
  · intro v1 hf H locs ls hH hS hl
    refine lv_istore (lv' := [(5, .int v1), (0, .ref (E.2.1 147)), (1, .int a1), (2, .int a2), (3, .int a3), (4, .int a4)]) hx hb dX12_flour_56 hl (by decide) rfl (fun ls hl => ?_)
    refine lv_iload hx hb dX12_flour_58 (lv_at hl 0 rfl) ?_
    refine lv_if_eq (tgt := 70) hx hb dX12_flour_60 (by decide) (fun c4 => ?_) (fun c4 => ?_)
    · have hf := mt_ifT c4 hf
      refine lv_iconst (v := 0) hx hb dX12_flour_70 (by decide) ?_
      refine lv_istore (lv' := [(6, .int (0 : Int32)), (5, .int v1), (0, .ref (E.2.1 147)), (1, .int a1), (2, .int a2), (3, .int a3), (4, .int a4)]) hx hb dX12_flour_71 hl (by decide) rfl (fun ls hl => ?_)
      refine mt_lpI2 hf (fun (x5 : Int32) (U6 : mt_U) => ∀ (H : Heap) (locs : List Loc) (ls : Array Slot), mt_H E M U6 H → va_S (mt_A E) s.heap H locs → lv_has ls 11 [(0, .ref (E.2.1 147)), (1, .int a1), (2, .int a2), (3, .int a3), (4, .int a4), (6, .int x5)] → W p l e (headSpec wsX12_flour ({ frames := 2, cells := 0, slots := 0, locals := 53 } : Room)).room s mid (([.ref (E.2.1 147), .int a1, .int a2, .int a3, .int a4] : List Value).toArray) below meth c0 H locs 0 0 (MQ below (mt_Ql E r M' u') (([.ref (E.2.1 147), .int a1, .int a2, .int a3, .int a4] : List Value).toArray) s 0 0 (mt_A E)) (F0 mid 73 ls [])) ?_ _ _ _ hH hS (lv_sub hl [2, 3, 4, 5, 6, 0] rfl)
      intro k7 ih8 x5 U6 hf H locs ls hH hS hl
      refine lv_iload hx hb dX12_flour_73 (lv_at hl 5 rfl) ?_
      refine lv_bipush (v := 14) hx hb dX12_flour_75 (by decide) ?_
      refine lv_icmp_ge (tgt := 103) hx hb dX12_flour_77 (by decide) (fun c9 => ?_) (fun c9 => ?_)
      · have hf := mt_ifT c9 hf
        refine lv_lconst (v := 1) hx hb dX12_flour_103 (by decide) ?_
        refine lv_lstore (lv' := [(6, .long (1 : Int64)), (0, .ref (E.2.1 147)), (1, .int a1), (2, .int a2), (3, .int a3), (4, .int a4)]) hx hb dX12_flour_104 hl (by decide) rfl (fun ls hl => ?_)
        refine lv_iconst (v := 0) hx hb dX12_flour_106 (by decide) ?_
        refine lv_istore (lv' := [(8, .int (0 : Int32)), (6, .long (1 : Int64)), (0, .ref (E.2.1 147)), (1, .int a1), (2, .int a2), (3, .int a3), (4, .int a4)]) hx hb dX12_flour_107 hl (by decide) rfl (fun ls hl => ?_)
        refine mt_lpI3 hf (fun (x10 : Int64) (x11 : Int32) (U12 : mt_U) => ∀ (H : Heap) (locs : List Loc) (ls : Array Slot), mt_H E M U12 H → va_S (mt_A E) s.heap H locs → lv_has ls 11 [(0, .ref (E.2.1 147)), (1, .int a1), (2, .int a2), (3, .int a3), (4, .int a4), (6, .long x10), (8, .int x11)] → W p l e (headSpec wsX12_flour ({ frames := 2, cells := 0, slots := 0, locals := 53 } : Room)).room s mid (([.ref (E.2.1 147), .int a1, .int a2, .int a3, .int a4] : List Value).toArray) below meth c0 H locs 0 0 (MQ below (mt_Ql E r M' u') (([.ref (E.2.1 147), .int a1, .int a2, .int a3, .int a4] : List Value).toArray) s 0 0 (mt_A E)) (F0 mid 109 ls [])) ?_ _ _ _ hH hS (lv_sub hl [2, 3, 4, 5, 6, 1, 0] rfl)
        intro k13 ih14 x10 x11 U12 hf H locs ls hH hS hl
        refine lv_iload hx hb dX12_flour_109 (lv_at hl 6 rfl) ?_
        refine lv_iload_n hx hb dX12_flour_111 rfl (lv_at hl 2 rfl) ?_
        refine lv_icmp_ge (tgt := 186) hx hb dX12_flour_112 (by decide) (fun c15 => ?_) (fun c15 => ?_)
        · have hf := mt_ifT c15 hf
          refine lv_lconst (v := 0) hx hb dX12_flour_186 (by decide) ?_
          refine lv_lstore (lv' := [(8, .long (0 : Int64)), (0, .ref (E.2.1 147)), (1, .int a1), (2, .int a2), (3, .int a3), (4, .int a4), (6, .long x10)]) hx hb dX12_flour_187 hl (by decide) rfl (fun ls hl => ?_)
          refine lv_iconst (v := 0) hx hb dX12_flour_189 (by decide) ?_
          refine lv_istore (lv' := [(10, .int (0 : Int32)), (8, .long (0 : Int64)), (0, .ref (E.2.1 147)), (1, .int a1), (2, .int a2), (3, .int a3), (4, .int a4), (6, .long x10)]) hx hb dX12_flour_190 hl (by decide) rfl (fun ls hl => ?_)
          refine mt_lpI2 hf (fun (x16 : Int64) (x17 : Int32) => ∀ (H : Heap) (locs : List Loc) (ls : Array Slot), mt_H E M U12 H → va_S (mt_A E) s.heap H locs → lv_has ls 11 [(0, .ref (E.2.1 147)), (1, .int a1), (4, .int a4), (6, .long x10), (8, .long x16), (10, .int x17)] → W p l e (headSpec wsX12_flour ({ frames := 2, cells := 0, slots := 0, locals := 53 } : Room)).room s mid (([.ref (E.2.1 147), .int a1, .int a2, .int a3, .int a4] : List Value).toArray) below meth c0 H locs 0 0 (MQ below (mt_Ql E r M' u') (([.ref (E.2.1 147), .int a1, .int a2, .int a3, .int a4] : List Value).toArray) s 0 0 (mt_A E)) (F0 mid 192 ls [])) ?_ _ _ _ hH hS (lv_sub hl [2, 3, 6, 7, 1, 0] rfl)
          intro k18 ih19 x16 x17 hf H locs ls hH hS hl
          refine lv_iload hx hb dX12_flour_192 (lv_at hl 5 rfl) ?_
          refine lv_iload_n hx hb dX12_flour_194 rfl (lv_at hl 1 rfl) ?_
          refine lv_icmp_ge (tgt := 216) hx hb dX12_flour_195 (by decide) (fun c20 => ?_) (fun c20 => ?_)
          · have hf := mt_ifT c20 hf
            refine lv_lload hx hb dX12_flour_216 (lv_at hl 4 rfl) ?_
            refine lv_lload hx hb dX12_flour_218 (lv_at hl 3 rfl) ?_
            refine lv_iload hx hb dX12_flour_220 (lv_at hl 2 rfl) ?_
            refine mt_b1I hf (fun r22 hg21 hf => ?_)
            refine mt_gol (mt_runS (As := [.long x16, .long x10, .int a4]) (rest := []) ⟨hx, hb, hml, hown, hts⟩ hI hH (c_X12_partOf l E x16 x10 a4 M U12 _ hg21) (va_cwS 3 hts gX12_flour_X12_partOf rfl rfl rfl (by decide +kernel) ⟨Nat.le_of_ble_eq_true rfl, Nat.le_of_ble_eq_true rfl⟩) rfl hl.1 rfl (Nat.le_of_ble_eq_true rfl) dX12_flour_222 ⟨Nat.zero_le _, Nat.zero_le _⟩) hS (fun H locs hH hS => ?_)
            obtain ⟨i1, i2, i3⟩ := mt_so3 hf
            subst i1
            subst i2
            subst i3
            exact mt_lret hx hb hr hI hH hS hlocks dX12_flour_225
          · have hf := mt_ifF c20 hf
            refine lv_lload hx hb dX12_flour_198 (lv_at hl 4 rfl) ?_
            refine lv_aload_n hx hb dX12_flour_200 rfl (lv_at hl 0 rfl) ?_
            refine mt_getr (C := RX12) (T := TX12) (N := 29) hx hb hts hinX12 hown hI hH mt_T147 rfl 25 (by decide) kw0 rfl rfl dX12_flour_201 ?_
            refine lv_iload hx hb dX12_flour_204 (lv_at hl 5 rfl) ?_
            refine mt_ciI hf (fun q23 hf => ?_)
            refine mt_lald hx hb hI hH q23 dX12_flour_206 ?_
            refine lv_ladd hx hb dX12_flour_207 ?_
            refine mt_ltl hf (fun x24 ex24 hf => ?_)
            refine lv_lstore (lv' := [(8, .long x24), (0, .ref (E.2.1 147)), (1, .int a1), (4, .int a4), (6, .long x10), (10, .int x17)]) hx hb dX12_flour_208 hl (by decide) rfl (fun ls hl => ?_)
            refine mt_ltI hf (fun x25 ex25 hf => ?_)
            refine lv_iinc (v := x25) (lv' := [(10, .int x25), (8, .long x24), (0, .ref (E.2.1 147)), (1, .int a1), (4, .int a4), (6, .long x10)]) hx hb dX12_flour_210 hl (k := 5) rfl (by rw [ex25]; rfl) (by decide) rfl (fun ls hl => ?_)
            refine lv_goto (tgt := 192) hx hb dX12_flour_213 (by decide) ?_
            exact ih19 x24 x25 hf _ _ _ hH hS (lv_sub hl [2, 3, 4, 5, 1, 0] rfl)
        · have hf := mt_ifF c15 hf
          refine lv_bipush (v := 13) hx hb dX12_flour_115 (by decide) ?_
          refine lv_istore (lv' := [(9, .int (13 : Int32)), (0, .ref (E.2.1 147)), (1, .int a1), (2, .int a2), (3, .int a3), (4, .int a4), (6, .long x10), (8, .int x11)]) hx hb dX12_flour_117 hl (by decide) rfl (fun ls hl => ?_)
          refine mt_lpI2 hf (fun (x26 : Int32) (U27 : mt_U) => ∀ (H : Heap) (locs : List Loc) (ls : Array Slot), mt_H E M U27 H → va_S (mt_A E) s.heap H locs → lv_has ls 11 [(0, .ref (E.2.1 147)), (1, .int a1), (2, .int a2), (3, .int a3), (4, .int a4), (6, .long x10), (8, .int x11), (9, .int x26)] → W p l e (headSpec wsX12_flour ({ frames := 2, cells := 0, slots := 0, locals := 53 } : Room)).room s mid (([.ref (E.2.1 147), .int a1, .int a2, .int a3, .int a4] : List Value).toArray) below meth c0 H locs 0 0 (MQ below (mt_Ql E r M' u') (([.ref (E.2.1 147), .int a1, .int a2, .int a3, .int a4] : List Value).toArray) s 0 0 (mt_A E)) (F0 mid 119 ls [])) ?_ _ _ _ hH hS (lv_sub hl [1, 2, 3, 4, 5, 6, 7, 0] rfl)
          intro k28 ih29 x26 U27 hf H locs ls hH hS hl
          refine lv_iload hx hb dX12_flour_119 (lv_at hl 7 rfl) ?_
          refine lv_if_lt (tgt := 172) hx hb dX12_flour_121 (by decide) (fun c30 => ?_) (fun c30 => ?_)
          · have hf := mt_ifT c30 hf
            refine lv_lload hx hb dX12_flour_172 (lv_at hl 5 rfl) ?_
            refine lv_ldc2 hx hb hown kw1 dX12_flour_174 ?_
            refine lv_lmul hx hb dX12_flour_177 ?_
            refine mt_ltl hf (fun x31 ex31 hf => ?_)
            refine lv_lstore (lv' := [(6, .long x31), (0, .ref (E.2.1 147)), (1, .int a1), (2, .int a2), (3, .int a3), (4, .int a4), (8, .int x11), (9, .int x26)]) hx hb dX12_flour_178 hl (by decide) rfl (fun ls hl => ?_)
            refine mt_ltI hf (fun x32 ex32 hf => ?_)
            refine lv_iinc (v := x32) (lv' := [(8, .int x32), (6, .long x31), (0, .ref (E.2.1 147)), (1, .int a1), (2, .int a2), (3, .int a3), (4, .int a4), (9, .int x26)]) hx hb dX12_flour_180 hl (k := 6) rfl (by rw [ex32]; rfl) (by decide) rfl (fun ls hl => ?_)
            refine lv_goto (tgt := 109) hx hb dX12_flour_183 (by decide) ?_
            exact ih14 x31 x32 U27 hf _ _ _ hH hS (lv_sub hl [2, 3, 4, 5, 6, 1, 0] rfl)
          · have hf := mt_ifF c30 hf
            refine lv_aload_n hx hb dX12_flour_124 rfl (lv_at hl 0 rfl) ?_
            refine mt_getr (C := RX12) (T := TX12) (N := 29) hx hb hts hinX12 hown hI hH mt_T147 rfl 25 (by decide) kw0 rfl rfl dX12_flour_125 ?_
            refine lv_iload hx hb dX12_flour_128 (lv_at hl 7 rfl) ?_
            refine lv_bipush (v := 10) hx hb dX12_flour_130 (by decide) ?_
            refine lv_iload_n hx hb dX12_flour_132 rfl (lv_at hl 3 rfl) ?_
            refine lv_isub hx hb dX12_flour_133 ?_
            refine lv_i2l (v := ((((10 : Int32) - a3)).toInt64)) hx hb dX12_flour_134 rfl ?_
            refine lv_aload_n hx hb dX12_flour_135 rfl (lv_at hl 0 rfl) ?_
            refine mt_getr (C := RX12) (T := TX12) (N := 29) hx hb hts hinX12 hown hI hH mt_T147 rfl 25 (by decide) kw0 rfl rfl dX12_flour_136 ?_
            refine lv_iload hx hb dX12_flour_139 (lv_at hl 7 rfl) ?_
            refine mt_ciI hf (fun q33 hf => ?_)
            refine mt_lald hx hb hI hH q33 dX12_flour_141 ?_
            refine lv_lmul hx hb dX12_flour_142 ?_
            refine lv_iload hx hb dX12_flour_143 (lv_at hl 7 rfl) ?_
            refine mt_jn1 hf (fun (v34 : Int64) => ∀ (H : Heap) (locs : List Loc) (ls : Array Slot), mt_H E M U27 H → va_S (mt_A E) s.heap H locs → lv_has ls 11 [(0, .ref (E.2.1 147)), (1, .int a1), (2, .int a2), (3, .int a3), (4, .int a4), (6, .long x10), (8, .int x11), (9, .int x26)] → W p l e (headSpec wsX12_flour ({ frames := 2, cells := 0, slots := 0, locals := 53 } : Room)).room s mid (([.ref (E.2.1 147), .int a1, .int a2, .int a3, .int a4] : List Value).toArray) below meth c0 H locs 0 0 (MQ below (mt_Ql E r M' u') (([.ref (E.2.1 147), .int a1, .int a2, .int a3, .int a4] : List Value).toArray) s 0 0 (mt_A E)) (F0 mid 164 ls [.long v34, .long (((((10 : Int32) - a3)).toInt64) * (U27 x26.toNatClampNeg)), .int x26, .ref (E.2.1 161)])) ?_ ?_
            · intro v34 hf H locs ls hH hS hl
              refine lv_ladd hx hb dX12_flour_164 ?_
              refine mt_ciI hf (fun q38 hf => ?_)
              refine mt_last hx hb hI hH hS q38 dX12_flour_165 (fun H locs hH hS => ?_)
              refine mt_ltI hf (fun U37 eU37 hf => ?_)
              rw [← eU37] at hH
              refine mt_ltI hf (fun x39 ex39 hf => ?_)
              refine lv_iinc (v := x39) (lv' := [(9, .int x39), (0, .ref (E.2.1 147)), (1, .int a1), (2, .int a2), (3, .int a3), (4, .int a4), (6, .long x10), (8, .int x11)]) hx hb dX12_flour_166 hl (k := 7) rfl (by rw [ex39]; rfl) (by decide) rfl (fun ls hl => ?_)
              refine lv_goto (tgt := 119) hx hb dX12_flour_169 (by decide) ?_
              exact ih29 x39 U37 hf _ _ _ hH hS (lv_sub hl [1, 2, 3, 4, 5, 6, 7, 0] rfl)
            · intro j35 hj36 hf
              refine lv_if_ne (tgt := 152) hx hb dX12_flour_145 (by decide) (fun c40 => ?_) (fun c40 => ?_)
              · have hf := mt_ifF c40 hf
                refine lv_iload_n hx hb dX12_flour_152 rfl (lv_at hl 3 rfl) ?_
                refine lv_i2l (v := ((a3).toInt64)) hx hb dX12_flour_153 rfl ?_
                refine lv_aload_n hx hb dX12_flour_154 rfl (lv_at hl 0 rfl) ?_
                refine mt_getr (C := RX12) (T := TX12) (N := 29) hx hb hts hinX12 hown hI hH mt_T147 rfl 25 (by decide) kw0 rfl rfl dX12_flour_155 ?_
                refine lv_iload hx hb dX12_flour_158 (lv_at hl 7 rfl) ?_
                refine lv_iconst (v := 1) hx hb dX12_flour_160 (by decide) ?_
                refine lv_isub hx hb dX12_flour_161 ?_
                refine mt_ciI hf (fun q41 hf => ?_)
                refine mt_lald hx hb hI hH q41 dX12_flour_162 ?_
                refine lv_lmul hx hb dX12_flour_163 ?_
                exact hj36 (((a3).toInt64) * (U27 (x26 - (1 : Int32)).toNatClampNeg)) hf _ _ _ hH hS (lv_sub hl [0, 1, 2, 3, 4, 5, 6, 7] rfl)
              · have hf := mt_ifT c40 hf
                refine lv_lconst (v := 0) hx hb dX12_flour_148 (by decide) ?_
                refine lv_goto (tgt := 164) hx hb dX12_flour_149 (by decide) ?_
                exact hj36 (0 : Int64) hf _ _ _ hH hS (lv_sub hl [0, 1, 2, 3, 4, 5, 6, 7] rfl)
      · have hf := mt_ifF c9 hf
        refine lv_aload_n hx hb dX12_flour_80 rfl (lv_at hl 0 rfl) ?_
        refine mt_getr (C := RX12) (T := TX12) (N := 29) hx hb hts hinX12 hown hI hH mt_T147 rfl 25 (by decide) kw0 rfl rfl dX12_flour_81 ?_
        refine lv_iload hx hb dX12_flour_84 (lv_at hl 5 rfl) ?_
        refine lv_iload hx hb dX12_flour_86 (lv_at hl 5 rfl) ?_
        refine mt_jn1 hf (fun (v42 : Int64) => ∀ (H : Heap) (locs : List Loc) (ls : Array Slot), mt_H E M U6 H → va_S (mt_A E) s.heap H locs → lv_has ls 11 [(0, .ref (E.2.1 147)), (1, .int a1), (2, .int a2), (3, .int a3), (4, .int a4), (6, .int x5)] → W p l e (headSpec wsX12_flour ({ frames := 2, cells := 0, slots := 0, locals := 53 } : Room)).room s mid (([.ref (E.2.1 147), .int a1, .int a2, .int a3, .int a4] : List Value).toArray) below meth c0 H locs 0 0 (MQ below (mt_Ql E r M' u') (([.ref (E.2.1 147), .int a1, .int a2, .int a3, .int a4] : List Value).toArray) s 0 0 (mt_A E)) (F0 mid 96 ls [.long v42, .int x5, .ref (E.2.1 161)])) ?_ ?_
        · intro v42 hf H locs ls hH hS hl
          refine mt_ciI hf (fun q46 hf => ?_)
          refine mt_last hx hb hI hH hS q46 dX12_flour_96 (fun H locs hH hS => ?_)
          refine mt_ltI hf (fun U45 eU45 hf => ?_)
          rw [← eU45] at hH
          refine mt_ltI hf (fun x47 ex47 hf => ?_)
          refine lv_iinc (v := x47) (lv' := [(6, .int x47), (0, .ref (E.2.1 147)), (1, .int a1), (2, .int a2), (3, .int a3), (4, .int a4)]) hx hb dX12_flour_97 hl (k := 5) rfl (by rw [ex47]; rfl) (by decide) rfl (fun ls hl => ?_)
          refine lv_goto (tgt := 73) hx hb dX12_flour_100 (by decide) ?_
          exact ih8 x47 U45 hf _ _ _ hH hS (lv_sub hl [1, 2, 3, 4, 5, 0] rfl)
        · intro j43 hj44 hf
          refine lv_if_ne (tgt := 95) hx hb dX12_flour_88 (by decide) (fun c48 => ?_) (fun c48 => ?_)
          · have hf := mt_ifF c48 hf
            refine lv_lconst (v := 0) hx hb dX12_flour_95 (by decide) ?_
            exact hj44 (0 : Int64) hf _ _ _ hH hS (lv_sub hl [0, 1, 2, 3, 4, 5] rfl)
          · have hf := mt_ifT c48 hf
            refine lv_lconst (v := 1) hx hb dX12_flour_91 (by decide) ?_
            refine lv_goto (tgt := 96) hx hb dX12_flour_92 (by decide) ?_
            exact hj44 (1 : Int64) hf _ _ _ hH hS (lv_sub hl [0, 1, 2, 3, 4, 5] rfl)
    · have hf := mt_ifF c4 hf
      refine lv_aload_n hx hb dX12_flour_63 rfl (lv_at hl 1 rfl) ?_
      refine lv_iload hx hb dX12_flour_64 (lv_at hl 0 rfl) ?_
      refine mt_b2I hf (fun r50 M51 hg49 hf => ?_)
      refine mt_gol (mt_runV (i := 147) (As := [.int v1]) (rest := []) ⟨hx, hb, hml, hown, hts⟩ hI hH (c_X12_lowest l E v1 M u _ _ hg49) (cwV 1 hts gX12_flour_X12_lowest rfl rfl rfl (by decide +kernel) ⟨Nat.le_of_ble_eq_true rfl, Nat.le_of_ble_eq_true rfl⟩) mt_T147 rfl rfl hl.1 rfl (Nat.le_of_ble_eq_true rfl) dX12_flour_66 ⟨Nat.zero_le _, Nat.zero_le _⟩) hS (fun H locs hH hS => ?_)
      obtain ⟨i1, i2, i3⟩ := mt_so3 hf
      subst i1
      subst i2
      subst i3
      exact mt_lret hx hb hr hI hH hS hlocks dX12_flour_69
  · intro j2 hj3 hf
    refine mt_jn0 hf (∀ (H : Heap) (locs : List Loc) (ls : Array Slot), mt_H E M u H → va_S (mt_A E) s.heap H locs → lv_has ls 11 [(0, .ref (E.2.1 147)), (1, .int a1), (2, .int a2), (3, .int a3), (4, .int a4)] → W p l e (headSpec wsX12_flour ({ frames := 2, cells := 0, slots := 0, locals := 53 } : Room)).room s mid (([.ref (E.2.1 147), .int a1, .int a2, .int a3, .int a4] : List Value).toArray) below meth c0 H locs 0 0 (MQ below (mt_Ql E r M' u') (([.ref (E.2.1 147), .int a1, .int a2, .int a3, .int a4] : List Value).toArray) s 0 0 (mt_A E)) (F0 mid 12 ls [])) ?_ ?_
    · intro hf H locs ls hH hS hl
      refine lv_bipush (v := (-4)) hx hb dX12_flour_12 (by decide) ?_
      refine lv_goto (tgt := 56) hx hb dX12_flour_14 (by decide) ?_
      exact hj3 (-4 : Int32) hf _ _ _ hH hS (lv_sub hl [0, 1, 2, 3, 4] rfl)
    · intro j52 hj53 hf
      refine lv_if_lt (tgt := 12) hx hb dX12_flour_1 (by decide) (fun c54 => ?_) (fun c54 => ?_)
      · have hf := mt_ifT c54 hf
        exact hj53 hf _ _ _ hH hS (lv_sub hl [0, 1, 2, 3, 4] rfl)
      · have hf := mt_ifF c54 hf
        refine lv_iload_n hx hb dX12_flour_4 rfl (lv_at hl 2 rfl) ?_
        refine lv_if_lt (tgt := 12) hx hb dX12_flour_5 (by decide) (fun c55 => ?_) (fun c55 => ?_)
        · have hf := mt_ifT c55 hf
          exact hj53 hf _ _ _ hH hS (lv_sub hl [0, 1, 2, 3, 4] rfl)
        · have hf := mt_ifF c55 hf
          refine lv_iload_n hx hb dX12_flour_8 rfl (lv_at hl 3 rfl) ?_
          refine lv_if_ge (tgt := 17) hx hb dX12_flour_9 (by decide) (fun c56 => ?_) (fun c56 => ?_)
          · have hf := mt_ifT c56 hf
            refine lv_iload_n hx hb dX12_flour_17 rfl (lv_at hl 1 rfl) ?_
            refine lv_bipush (v := 9) hx hb dX12_flour_18 (by decide) ?_
            refine mt_jn0 hf (∀ (H : Heap) (locs : List Loc) (ls : Array Slot), mt_H E M u H → va_S (mt_A E) s.heap H locs → lv_has ls 11 [(0, .ref (E.2.1 147)), (1, .int a1), (2, .int a2), (3, .int a3), (4, .int a4)] → W p l e (headSpec wsX12_flour ({ frames := 2, cells := 0, slots := 0, locals := 53 } : Room)).room s mid (([.ref (E.2.1 147), .int a1, .int a2, .int a3, .int a4] : List Value).toArray) below meth c0 H locs 0 0 (MQ below (mt_Ql E r M' u') (([.ref (E.2.1 147), .int a1, .int a2, .int a3, .int a4] : List Value).toArray) s 0 0 (mt_A E)) (F0 mid 35 ls [])) ?_ ?_
            · intro hf H locs ls hH hS hl
              refine lv_bipush (v := (-6)) hx hb dX12_flour_35 (by decide) ?_
              refine lv_goto (tgt := 56) hx hb dX12_flour_37 (by decide) ?_
              exact hj3 (-6 : Int32) hf _ _ _ hH hS (lv_sub hl [0, 1, 2, 3, 4] rfl)
            · intro j57 hj58 hf
              refine lv_icmp_gt (tgt := 35) hx hb dX12_flour_20 (by decide) (fun c59 => ?_) (fun c59 => ?_)
              · have hf := mt_ifT c59 hf
                exact hj58 hf _ _ _ hH hS (lv_sub hl [0, 1, 2, 3, 4] rfl)
              · have hf := mt_ifF c59 hf
                refine lv_iload_n hx hb dX12_flour_23 rfl (lv_at hl 2 rfl) ?_
                refine lv_bipush (v := 12) hx hb dX12_flour_24 (by decide) ?_
                refine lv_icmp_gt (tgt := 35) hx hb dX12_flour_26 (by decide) (fun c60 => ?_) (fun c60 => ?_)
                · have hf := mt_ifT c60 hf
                  exact hj58 hf _ _ _ hH hS (lv_sub hl [0, 1, 2, 3, 4] rfl)
                · have hf := mt_ifF c60 hf
                  refine lv_iload_n hx hb dX12_flour_29 rfl (lv_at hl 3 rfl) ?_
                  refine lv_bipush (v := 10) hx hb dX12_flour_30 (by decide) ?_
                  refine lv_icmp_le (tgt := 40) hx hb dX12_flour_32 (by decide) (fun c61 => ?_) (fun c61 => ?_)
                  · have hf := mt_ifT c61 hf
                    refine lv_iload hx hb dX12_flour_40 (lv_at hl 4 rfl) ?_
                    refine lv_iconst (v := 0) hx hb dX12_flour_42 (by decide) ?_
                    refine lv_iconst (v := 1) hx hb dX12_flour_43 (by decide) ?_
                    refine mt_b1I hf (fun r63 hg62 hf => ?_)
                    refine mt_goi (mt_runS (As := [.int a4, .int (0 : Int32), .int (1 : Int32)]) (rest := []) ⟨hx, hb, hml, hown, hts⟩ hI hH (c_X12_isIn l E a4 (0 : Int32) (1 : Int32) M u _ hg62) (va_cwS 3 hts gX12_flour_X12_isIn rfl rfl rfl (by decide +kernel) ⟨Nat.le_of_ble_eq_true rfl, Nat.le_of_ble_eq_true rfl⟩) rfl hl.1 rfl (Nat.le_of_ble_eq_true rfl) dX12_flour_44 ⟨Nat.zero_le _, Nat.zero_le _⟩) hS (fun H locs hH hS => ?_)
                    refine lv_if_ne (tgt := 55) hx hb dX12_flour_47 (by decide) (fun c64 => ?_) (fun c64 => ?_)
                    · have hf := mt_ifF c64 hf
                      refine lv_iconst (v := 0) hx hb dX12_flour_55 (by decide) ?_
                      exact hj3 (0 : Int32) hf _ _ _ hH hS (lv_sub hl [0, 1, 2, 3, 4] rfl)
                    · have hf := mt_ifT c64 hf
                      refine lv_bipush (v := (-2)) hx hb dX12_flour_50 (by decide) ?_
                      refine lv_goto (tgt := 56) hx hb dX12_flour_52 (by decide) ?_
                      exact hj3 (-2 : Int32) hf _ _ _ hH hS (lv_sub hl [0, 1, 2, 3, 4] rfl)
                  · have hf := mt_ifF c61 hf
                    exact hj58 hf _ _ _ hH hS (lv_sub hl [0, 1, 2, 3, 4] rfl)
          · have hf := mt_ifF c56 hf
            exact hj53 hf _ _ _ hH hS (lv_sub hl [0, 1, 2, 3, 4] rfl)
set_option maxHeartbeats 4000000 in
set_option maxRecDepth 100000 in
theorem c_X12_sure (l : Launch) (E : mt_E) (a1 : Int32) (a2 : Int32) (a3 : Int32) (M : mt_M) (u : mt_U) (r : Int64) (M' : mt_M) (hf : f_X12_sure a1 a2 a3 M = some (r, M')) : Met l yX12_sure wsX12_sure ({ frames := 2, cells := 0, slots := 0, locals := 53 } : Room) (mt_P E [.ref (E.2.1 147), .int a1, .int a2, .int a3] M u) (mt_Ql E r M' u) 0 0 (mt_A E) := by
  refine Met.ofW (cc := cX12_sure) (maxL := 7) (ret := (some .long)) (by decide) rfl ?_
  intro p e s mid args below meth c0 s₁ B hml hv
  obtain ⟨rfl, hI, hH⟩ := hv
  have hx := B.exec
  have hb := B.bytes
  have hr := B.returns
  have hts := atoms_spec (ws := wsX12_sure) B.pre
  have hown : s.vm.findClass RX12 = some mid.cls := findClass_of_methodNamed B.named
  have hlocks := B.notSynchronized
  have hS : va_S (mt_A E) s.heap s.heap [] := va_S.rf
  have hl := lv_entry ([.ref (E.2.1 147), .int a1, .int a2, .int a3]) (n := 7) (Nat.le_of_ble_eq_true rfl)
  rw [lg_entry_eq]
  generalize (lg_sl ([.ref (E.2.1 147), .int a1, .int a2, .int a3]) ++ List.replicate (7 - (lg_sl ([.ref (E.2.1 147), .int a1, .int a2, .int a3])).length) Slot.unset).toArray = ls at hl ⊢
  have hl : lv_has ls 7 [(0, .ref (E.2.1 147)), (1, .int a1), (2, .int a2), (3, .int a3)] := hl
  unfold f_X12_sure at hf
  have kw0 := hts (.constantLong RX12 274 (9)) (List.mem_of_getElem? (i := 1) rfl)
  refine lv_iload_n hx hb dX12_sure_0 rfl (lv_at hl 1 rfl) ?_
  refine lv_iconst (v := 2) hx hb dX12_sure_1 (by decide) ?_
  refine lv_bipush (v := 99) hx hb dX12_sure_2 (by decide) ?_
  refine mt_b1I hf (fun r2 hg1 hf => ?_)
  refine mt_goi (mt_runS (As := [.int a1, .int (2 : Int32), .int (99 : Int32)]) (rest := []) ⟨hx, hb, hml, hown, hts⟩ hI hH (c_X12_bound l E a1 (2 : Int32) (99 : Int32) M u _ hg1) (va_cwS 3 hts gX12_sure_X12_bound rfl rfl rfl (by decide +kernel) ⟨Nat.le_of_ble_eq_true rfl, Nat.le_of_ble_eq_true rfl⟩) rfl hl.1 rfl (Nat.le_of_ble_eq_true rfl) dX12_sure_4 ⟨Nat.zero_le _, Nat.zero_le _⟩) hS (fun H locs hH hS => ?_)
  refine lv_istore (lv' := [(4, .int r2), (0, .ref (E.2.1 147)), (1, .int a1), (2, .int a2), (3, .int a3)]) hx hb dX12_sure_7 hl (by decide) rfl (fun ls hl => ?_)
  refine lv_iload hx hb dX12_sure_9 (lv_at hl 0 rfl) ?_
  refine mt_jn1 hf (fun (x3 : Int32) => ∀ (H : Heap) (locs : List Loc) (ls : Array Slot), mt_H E M u H → va_S (mt_A E) s.heap H locs → lv_has ls 7 [(0, .ref (E.2.1 147)), (1, .int a1), (2, .int a2), (3, .int a3), (4, .int x3)] → W p l e (headSpec wsX12_sure ({ frames := 2, cells := 0, slots := 0, locals := 53 } : Room)).room s mid (([.ref (E.2.1 147), .int a1, .int a2, .int a3] : List Value).toArray) below meth c0 H locs 0 0 (MQ below (mt_Ql E r M' u) (([.ref (E.2.1 147), .int a1, .int a2, .int a3] : List Value).toArray) s 0 0 (mt_A E)) (F0 mid 36 ls [])) ?_ ?_
  · intro x3 hf H locs ls hH hS hl
    refine lv_iload hx hb dX12_sure_36 (lv_at hl 4 rfl) ?_
    refine lv_if_eq (tgt := 48) hx hb dX12_sure_38 (by decide) (fun c6 => ?_) (fun c6 => ?_)
    · have hf := mt_ifT c6 hf
      refine lv_iload_n hx hb dX12_sure_48 rfl (lv_at hl 1 rfl) ?_
      refine lv_iconst (v := 1) hx hb dX12_sure_49 (by decide) ?_
      refine lv_isub hx hb dX12_sure_50 ?_
      refine lv_i2l (v := (((a1 - (1 : Int32))).toInt64)) hx hb dX12_sure_51 rfl ?_
      refine lv_iload_n hx hb dX12_sure_52 rfl (lv_at hl 2 rfl) ?_
      refine lv_iconst (v := 1) hx hb dX12_sure_53 (by decide) ?_
      refine mt_jn1 hf (fun (v7 : Int64) => ∀ (H : Heap) (locs : List Loc) (ls : Array Slot), mt_H E M u H → va_S (mt_A E) s.heap H locs → lv_has ls 7 [(2, .int a2), (3, .int a3)] → W p l e (headSpec wsX12_sure ({ frames := 2, cells := 0, slots := 0, locals := 53 } : Room)).room s mid (([.ref (E.2.1 147), .int a1, .int a2, .int a3] : List Value).toArray) below meth c0 H locs 0 0 (MQ below (mt_Ql E r M' u) (([.ref (E.2.1 147), .int a1, .int a2, .int a3] : List Value).toArray) s 0 0 (mt_A E)) (F0 mid 64 ls [.long v7, .long (((a1 - (1 : Int32))).toInt64)])) ?_ ?_
      · intro v7 hf H locs ls hH hS hl
        refine lv_lmul hx hb dX12_sure_64 ?_
        refine mt_ltl hf (fun x10 ex10 hf => ?_)
        refine lv_lstore (lv' := [(5, .long x10), (2, .int a2), (3, .int a3)]) hx hb dX12_sure_65 hl (by decide) rfl (fun ls hl => ?_)
        refine lv_lload hx hb dX12_sure_67 (lv_at hl 0 rfl) ?_
        refine lv_lload hx hb dX12_sure_69 (lv_at hl 0 rfl) ?_
        refine lv_iload_n hx hb dX12_sure_71 rfl (lv_at hl 1 rfl) ?_
        refine lv_iconst (v := 1) hx hb dX12_sure_72 (by decide) ?_
        refine mt_jn1 hf (fun (v11 : Int64) => ∀ (H : Heap) (locs : List Loc) (ls : Array Slot), mt_H E M u H → va_S (mt_A E) s.heap H locs → lv_has ls 7 [(3, .int a3)] → W p l e (headSpec wsX12_sure ({ frames := 2, cells := 0, slots := 0, locals := 53 } : Room)).room s mid (([.ref (E.2.1 147), .int a1, .int a2, .int a3] : List Value).toArray) below meth c0 H locs 0 0 (MQ below (mt_Ql E r M' u) (([.ref (E.2.1 147), .int a1, .int a2, .int a3] : List Value).toArray) s 0 0 (mt_A E)) (F0 mid 83 ls [.long v11, .long x10, .long x10])) ?_ ?_
        · intro v11 hf H locs ls hH hS hl
          refine lv_ladd hx hb dX12_sure_83 ?_
          refine lv_iload_n hx hb dX12_sure_84 rfl (lv_at hl 0 rfl) ?_
          refine mt_b1I hf (fun r15 hg14 hf => ?_)
          refine mt_gol (mt_runS (As := [.long x10, .long (x10 + v11), .int a3]) (rest := []) ⟨hx, hb, hml, hown, hts⟩ hI hH (c_X12_partOf l E x10 (x10 + v11) a3 M u _ hg14) (va_cwS 3 hts gX12_sure_X12_partOf rfl rfl rfl (by decide +kernel) ⟨Nat.le_of_ble_eq_true rfl, Nat.le_of_ble_eq_true rfl⟩) rfl hl.1 rfl (Nat.le_of_ble_eq_true rfl) dX12_sure_85 ⟨Nat.zero_le _, Nat.zero_le _⟩) hS (fun H locs hH hS => ?_)
          obtain ⟨i1, i2⟩ := mt_so2 hf
          subst i1
          subst i2
          exact mt_lret hx hb hr hI hH hS hlocks dX12_sure_88
        · intro j12 hj13 hf
          refine lv_icmp_ne (tgt := 80) hx hb dX12_sure_73 (by decide) (fun c16 => ?_) (fun c16 => ?_)
          · have hf := mt_ifF c16 hf
            refine lv_ldc2 hx hb hown kw0 dX12_sure_80 ?_
            exact hj13 (9 : Int64) hf _ _ _ hH hS (lv_sub hl [2] rfl)
          · have hf := mt_ifT c16 hf
            refine lv_lconst (v := 1) hx hb dX12_sure_76 (by decide) ?_
            refine lv_goto (tgt := 83) hx hb dX12_sure_77 (by decide) ?_
            exact hj13 (1 : Int64) hf _ _ _ hH hS (lv_sub hl [2] rfl)
      · intro j8 hj9 hf
        refine lv_icmp_ne (tgt := 63) hx hb dX12_sure_54 (by decide) (fun c17 => ?_) (fun c17 => ?_)
        · have hf := mt_ifF c17 hf
          refine lv_lconst (v := 1) hx hb dX12_sure_63 (by decide) ?_
          exact hj9 (1 : Int64) hf _ _ _ hH hS (lv_sub hl [2, 3] rfl)
        · have hf := mt_ifT c17 hf
          refine lv_ldc2 hx hb hown kw0 dX12_sure_57 ?_
          refine lv_goto (tgt := 64) hx hb dX12_sure_60 (by decide) ?_
          exact hj9 (9 : Int64) hf _ _ _ hH hS (lv_sub hl [2, 3] rfl)
    · have hf := mt_ifF c6 hf
      refine lv_aload_n hx hb dX12_sure_41 rfl (lv_at hl 0 rfl) ?_
      refine lv_iload hx hb dX12_sure_42 (lv_at hl 4 rfl) ?_
      refine mt_b2I hf (fun r19 M20 hg18 hf => ?_)
      refine mt_gol (mt_runV (i := 147) (As := [.int x3]) (rest := []) ⟨hx, hb, hml, hown, hts⟩ hI hH (c_X12_lowest l E x3 M u _ _ hg18) (cwV 1 hts gX12_sure_X12_lowest rfl rfl rfl (by decide +kernel) ⟨Nat.le_of_ble_eq_true rfl, Nat.le_of_ble_eq_true rfl⟩) mt_T147 rfl rfl hl.1 rfl (Nat.le_of_ble_eq_true rfl) dX12_sure_44 ⟨Nat.zero_le _, Nat.zero_le _⟩) hS (fun H locs hH hS => ?_)
      obtain ⟨i1, i2⟩ := mt_so2 hf
      subst i1
      subst i2
      exact mt_lret hx hb hr hI hH hS hlocks dX12_sure_47
  · intro j4 hj5 hf
    refine lv_if_ne (tgt := 36) hx hb dX12_sure_11 (by decide) (fun c21 => ?_) (fun c21 => ?_)
    · have hf := mt_ifF c21 hf
      exact hj5 r2 hf _ _ _ hH hS (lv_sub hl [1, 2, 3, 4, 0] rfl)
    · have hf := mt_ifT c21 hf
      refine lv_iload_n hx hb dX12_sure_14 rfl (lv_at hl 3 rfl) ?_
      refine lv_iconst (v := 0) hx hb dX12_sure_15 (by decide) ?_
      refine lv_iconst (v := 1) hx hb dX12_sure_16 (by decide) ?_
      refine mt_b1I hf (fun r23 hg22 hf => ?_)
      refine mt_goi (mt_runS (As := [.int a2, .int (0 : Int32), .int (1 : Int32)]) (rest := []) ⟨hx, hb, hml, hown, hts⟩ hI hH (c_X12_isIn l E a2 (0 : Int32) (1 : Int32) M u _ hg22) (va_cwS 3 hts gX12_sure_X12_isIn rfl rfl rfl (by decide +kernel) ⟨Nat.le_of_ble_eq_true rfl, Nat.le_of_ble_eq_true rfl⟩) rfl hl.1 rfl (Nat.le_of_ble_eq_true rfl) dX12_sure_17 ⟨Nat.zero_le _, Nat.zero_le _⟩) hS (fun H locs hH hS => ?_)
      refine mt_jn0 hf (∀ (H : Heap) (locs : List Loc) (ls : Array Slot), mt_H E M u H → va_S (mt_A E) s.heap H locs → lv_has ls 7 [(0, .ref (E.2.1 147)), (1, .int a1), (2, .int a2), (3, .int a3)] → W p l e (headSpec wsX12_sure ({ frames := 2, cells := 0, slots := 0, locals := 53 } : Room)).room s mid (([.ref (E.2.1 147), .int a1, .int a2, .int a3] : List Value).toArray) below meth c0 H locs 0 0 (MQ below (mt_Ql E r M' u) (([.ref (E.2.1 147), .int a1, .int a2, .int a3] : List Value).toArray) s 0 0 (mt_A E)) (F0 mid 32 ls [])) ?_ ?_
      · intro hf H locs ls hH hS hl
        refine lv_bipush (v := (-2)) hx hb dX12_sure_32 (by decide) ?_
        refine lv_istore (lv' := [(4, .int (-2 : Int32)), (0, .ref (E.2.1 147)), (1, .int a1), (2, .int a2), (3, .int a3)]) hx hb dX12_sure_34 hl (by decide) rfl (fun ls hl => ?_)
        exact hj5 (-2 : Int32) hf _ _ _ hH hS (lv_sub hl [1, 2, 3, 4, 0] rfl)
      · intro j24 hj25 hf
        refine lv_if_eq (tgt := 32) hx hb dX12_sure_20 (by decide) (fun c26 => ?_) (fun c26 => ?_)
        · have hf := mt_ifT c26 hf
          exact hj25 hf _ _ _ hH hS (lv_sub hl [1, 2, 3, 4] rfl)
        · have hf := mt_ifF c26 hf
          refine lv_iload_n hx hb dX12_sure_23 rfl (lv_at hl 4 rfl) ?_
          refine lv_iconst (v := 0) hx hb dX12_sure_24 (by decide) ?_
          refine lv_iconst (v := 1) hx hb dX12_sure_25 (by decide) ?_
          refine mt_b1I hf (fun r28 hg27 hf => ?_)
          refine mt_goi (mt_runS (As := [.int a3, .int (0 : Int32), .int (1 : Int32)]) (rest := []) ⟨hx, hb, hml, hown, hts⟩ hI hH (c_X12_isIn l E a3 (0 : Int32) (1 : Int32) M u _ hg27) (va_cwS 3 hts gX12_sure_X12_isIn rfl rfl rfl (by decide +kernel) ⟨Nat.le_of_ble_eq_true rfl, Nat.le_of_ble_eq_true rfl⟩) rfl hl.1 rfl (Nat.le_of_ble_eq_true rfl) dX12_sure_26 ⟨Nat.zero_le _, Nat.zero_le _⟩) hS (fun H locs hH hS => ?_)
          refine lv_if_ne (tgt := 36) hx hb dX12_sure_29 (by decide) (fun c29 => ?_) (fun c29 => ?_)
          · have hf := mt_ifF c29 hf
            exact hj5 r2 hf _ _ _ hH hS (lv_sub hl [1, 2, 3, 4, 0] rfl)
          · have hf := mt_ifT c29 hf
            exact hj25 hf _ _ _ hH hS (lv_sub hl [1, 2, 3, 4] rfl)
set_option maxHeartbeats 4000000 in
set_option maxRecDepth 100000 in
theorem c_X12_bars (l : Launch) (E : mt_E) (a1 : Int32) (a2 : Int32) (a3 : Int32) (M : mt_M) (u : mt_U) (r : Int32) (M' : mt_M) (hf : f_X12_bars a1 a2 a3 M = some (r, M')) : Met l yX12_bars wsX12_bars ({ frames := 1, cells := 0, slots := 0, locals := 21 } : Room) (mt_P E [.ref (E.2.1 147), .int a1, .int a2, .int a3] M u) (mt_Qi E r M' u) 0 0 (mt_A E) := by
  refine Met.ofW (cc := cX12_bars) (maxL := 5) (ret := (some .int)) (by decide) rfl ?_
  intro p e s mid args below meth c0 s₁ B hml hv
  obtain ⟨rfl, hI, hH⟩ := hv
  have hx := B.exec
  have hb := B.bytes
  have hr := B.returns
  have hts := atoms_spec (ws := wsX12_bars) B.pre
  have hown : s.vm.findClass RX12 = some mid.cls := findClass_of_methodNamed B.named
  have hlocks := B.notSynchronized
  have hS : va_S (mt_A E) s.heap s.heap [] := va_S.rf
  have hl := lv_entry ([.ref (E.2.1 147), .int a1, .int a2, .int a3]) (n := 5) (Nat.le_of_ble_eq_true rfl)
  rw [lg_entry_eq]
  generalize (lg_sl ([.ref (E.2.1 147), .int a1, .int a2, .int a3]) ++ List.replicate (5 - (lg_sl ([.ref (E.2.1 147), .int a1, .int a2, .int a3])).length) Slot.unset).toArray = ls at hl ⊢
  have hl : lv_has ls 5 [(0, .ref (E.2.1 147)), (1, .int a1), (2, .int a2), (3, .int a3)] := hl
  unfold f_X12_bars at hf
  refine lv_iload_n hx hb dX12_bars_0 rfl (lv_at hl 1 rfl) ?_
  refine lv_iconst (v := 2) hx hb dX12_bars_1 (by decide) ?_
  refine mt_jn1 hf (fun (v1 : Int32) => ∀ (H : Heap) (locs : List Loc) (ls : Array Slot), mt_H E M u H → va_S (mt_A E) s.heap H locs → lv_has ls 5 [(0, .ref (E.2.1 147)), (1, .int a1), (2, .int a2), (3, .int a3)] → W p l e (headSpec wsX12_bars ({ frames := 1, cells := 0, slots := 0, locals := 21 } : Room)).room s mid (([.ref (E.2.1 147), .int a1, .int a2, .int a3] : List Value).toArray) below meth c0 H locs 0 0 (MQ below (mt_Qi E r M' u) (([.ref (E.2.1 147), .int a1, .int a2, .int a3] : List Value).toArray) s 0 0 (mt_A E)) (F0 mid 43 ls [.int v1])) ?_ ?_
  · intro v1 hf H locs ls hH hS hl
    refine lv_istore (lv' := [(4, .int v1), (0, .ref (E.2.1 147)), (1, .int a1), (2, .int a2), (3, .int a3)]) hx hb dX12_bars_43 hl (by decide) rfl (fun ls hl => ?_)
    refine lv_iload hx hb dX12_bars_45 (lv_at hl 0 rfl) ?_
    refine lv_if_eq (tgt := 59) hx hb dX12_bars_47 (by decide) (fun c4 => ?_) (fun c4 => ?_)
    · have hf := mt_ifT c4 hf
      refine lv_iload_n hx hb dX12_bars_59 rfl (lv_at hl 4 rfl) ?_
      refine lv_iload_n hx hb dX12_bars_60 rfl (lv_at hl 2 rfl) ?_
      refine mt_ckI hf (fun q5 hf => ?_)
      refine lv_idiv hx hb dX12_bars_61 q5 ?_
      refine lv_iload_n hx hb dX12_bars_62 rfl (lv_at hl 3 rfl) ?_
      refine lv_icmp_le (tgt := 71) hx hb dX12_bars_63 (by decide) (fun c6 => ?_) (fun c6 => ?_)
      · have hf := mt_ifT c6 hf
        refine lv_iconst (v := 0) hx hb dX12_bars_71 (by decide) ?_
        obtain ⟨i1, i2⟩ := mt_so2 hf
        subst i1
        subst i2
        exact mt_iret hx hb hr hI hH hS hlocks dX12_bars_72
      · have hf := mt_ifF c6 hf
        refine lv_bipush (v := 60) hx hb dX12_bars_66 (by decide) ?_
        refine lv_goto (tgt := 72) hx hb dX12_bars_68 (by decide) ?_
        obtain ⟨i1, i2⟩ := mt_so2 hf
        subst i1
        subst i2
        exact mt_iret hx hb hr hI hH hS hlocks dX12_bars_72
    · have hf := mt_ifF c4 hf
      refine lv_aload_n hx hb dX12_bars_50 rfl (lv_at hl 1 rfl) ?_
      refine lv_iload hx hb dX12_bars_51 (lv_at hl 0 rfl) ?_
      refine mt_b2I hf (fun r8 M9 hg7 hf => ?_)
      refine mt_goi (mt_runV (i := 147) (As := [.int v1]) (rest := []) ⟨hx, hb, hml, hown, hts⟩ hI hH (c_X12_no l E v1 M u _ _ hg7) (cwV 1 hts gX12_bars_X12_no rfl rfl rfl (by decide +kernel) ⟨Nat.le_of_ble_eq_true rfl, Nat.le_of_ble_eq_true rfl⟩) mt_T147 rfl rfl hl.1 rfl (Nat.le_of_ble_eq_true rfl) dX12_bars_53 ⟨Nat.zero_le _, Nat.zero_le _⟩) hS (fun H locs hH hS => ?_)
      refine lv_goto (tgt := 72) hx hb dX12_bars_56 (by decide) ?_
      obtain ⟨i1, i2⟩ := mt_so2 hf
      subst i1
      subst i2
      exact mt_iret hx hb hr hI hH hS hlocks dX12_bars_72
  · intro j2 hj3 hf
    refine mt_jn0 hf (∀ (H : Heap) (locs : List Loc) (ls : Array Slot), mt_H E M u H → va_S (mt_A E) s.heap H locs → lv_has ls 5 [(0, .ref (E.2.1 147)), (1, .int a1), (2, .int a2), (3, .int a3)] → W p l e (headSpec wsX12_bars ({ frames := 1, cells := 0, slots := 0, locals := 21 } : Room)).room s mid (([.ref (E.2.1 147), .int a1, .int a2, .int a3] : List Value).toArray) below meth c0 H locs 0 0 (MQ below (mt_Qi E r M' u) (([.ref (E.2.1 147), .int a1, .int a2, .int a3] : List Value).toArray) s 0 0 (mt_A E)) (F0 mid 14 ls [])) ?_ ?_
    · intro hf H locs ls hH hS hl
      refine lv_bipush (v := (-4)) hx hb dX12_bars_14 (by decide) ?_
      refine lv_goto (tgt := 43) hx hb dX12_bars_16 (by decide) ?_
      exact hj3 (-4 : Int32) hf _ _ _ hH hS (lv_sub hl [0, 1, 2, 3] rfl)
    · intro j10 hj11 hf
      refine lv_icmp_lt (tgt := 14) hx hb dX12_bars_2 (by decide) (fun c12 => ?_) (fun c12 => ?_)
      · have hf := mt_ifT c12 hf
        exact hj11 hf _ _ _ hH hS (lv_sub hl [0, 1, 2, 3] rfl)
      · have hf := mt_ifF c12 hf
        refine lv_iload_n hx hb dX12_bars_5 rfl (lv_at hl 2 rfl) ?_
        refine lv_iconst (v := 1) hx hb dX12_bars_6 (by decide) ?_
        refine lv_icmp_lt (tgt := 14) hx hb dX12_bars_7 (by decide) (fun c13 => ?_) (fun c13 => ?_)
        · have hf := mt_ifT c13 hf
          exact hj11 hf _ _ _ hH hS (lv_sub hl [0, 1, 2, 3] rfl)
        · have hf := mt_ifF c13 hf
          refine lv_iload_n hx hb dX12_bars_10 rfl (lv_at hl 3 rfl) ?_
          refine lv_if_ge (tgt := 19) hx hb dX12_bars_11 (by decide) (fun c14 => ?_) (fun c14 => ?_)
          · have hf := mt_ifT c14 hf
            refine lv_iload_n hx hb dX12_bars_19 rfl (lv_at hl 1 rfl) ?_
            refine lv_bipush (v := 20) hx hb dX12_bars_20 (by decide) ?_
            refine mt_jn0 hf (∀ (H : Heap) (locs : List Loc) (ls : Array Slot), mt_H E M u H → va_S (mt_A E) s.heap H locs → lv_has ls 5 [(0, .ref (E.2.1 147)), (1, .int a1), (2, .int a2), (3, .int a3)] → W p l e (headSpec wsX12_bars ({ frames := 1, cells := 0, slots := 0, locals := 21 } : Room)).room s mid (([.ref (E.2.1 147), .int a1, .int a2, .int a3] : List Value).toArray) below meth c0 H locs 0 0 (MQ below (mt_Qi E r M' u) (([.ref (E.2.1 147), .int a1, .int a2, .int a3] : List Value).toArray) s 0 0 (mt_A E)) (F0 mid 37 ls [])) ?_ ?_
            · intro hf H locs ls hH hS hl
              refine lv_bipush (v := (-6)) hx hb dX12_bars_37 (by decide) ?_
              refine lv_goto (tgt := 43) hx hb dX12_bars_39 (by decide) ?_
              exact hj3 (-6 : Int32) hf _ _ _ hH hS (lv_sub hl [0, 1, 2, 3] rfl)
            · intro j15 hj16 hf
              refine lv_icmp_gt (tgt := 37) hx hb dX12_bars_22 (by decide) (fun c17 => ?_) (fun c17 => ?_)
              · have hf := mt_ifT c17 hf
                exact hj16 hf _ _ _ hH hS (lv_sub hl [0, 1, 2, 3] rfl)
              · have hf := mt_ifF c17 hf
                refine lv_iload_n hx hb dX12_bars_25 rfl (lv_at hl 2 rfl) ?_
                refine lv_bipush (v := 9) hx hb dX12_bars_26 (by decide) ?_
                refine lv_icmp_gt (tgt := 37) hx hb dX12_bars_28 (by decide) (fun c18 => ?_) (fun c18 => ?_)
                · have hf := mt_ifT c18 hf
                  exact hj16 hf _ _ _ hH hS (lv_sub hl [0, 1, 2, 3] rfl)
                · have hf := mt_ifF c18 hf
                  refine lv_iload_n hx hb dX12_bars_31 rfl (lv_at hl 3 rfl) ?_
                  refine lv_bipush (v := 99) hx hb dX12_bars_32 (by decide) ?_
                  refine lv_icmp_le (tgt := 42) hx hb dX12_bars_34 (by decide) (fun c19 => ?_) (fun c19 => ?_)
                  · have hf := mt_ifT c19 hf
                    refine lv_iconst (v := 0) hx hb dX12_bars_42 (by decide) ?_
                    exact hj3 (0 : Int32) hf _ _ _ hH hS (lv_sub hl [0, 1, 2, 3] rfl)
                  · have hf := mt_ifF c19 hf
                    exact hj16 hf _ _ _ hH hS (lv_sub hl [0, 1, 2, 3] rfl)
          · have hf := mt_ifF c14 hf
            exact hj11 hf _ _ _ hH hS (lv_sub hl [0, 1, 2, 3] rfl)
set_option maxHeartbeats 4000000 in
set_option maxRecDepth 100000 in
theorem c_X12_areAlike (l : Launch) (E : mt_E) (a1 : Int32) (a2 : Int32) (M : mt_M) (u : mt_U) (r : Int32) (hf : f_X12_areAlike a1 a2 M = some (r)) : Met l yX12_areAlike wsX12_areAlike ({ frames := 1, cells := 0, slots := 0, locals := 22 } : Room) (mt_P E [.ref (E.2.1 147), .int a1, .int a2] M u) (mt_Qi E r M u) 0 0 (mt_A E) := by
  refine Met.ofW (cc := cX12_areAlike) (maxL := 3) (ret := (some .boolean)) (by decide) rfl ?_
  intro p e s mid args below meth c0 s₁ B hml hv
  obtain ⟨rfl, hI, hH⟩ := hv
  have hx := B.exec
  have hb := B.bytes
  have hr := B.returns
  have hts := atoms_spec (ws := wsX12_areAlike) B.pre
  have hown : s.vm.findClass RX12 = some mid.cls := findClass_of_methodNamed B.named
  have hlocks := B.notSynchronized
  have hS : va_S (mt_A E) s.heap s.heap [] := va_S.rf
  have hl := lv_entry ([.ref (E.2.1 147), .int a1, .int a2]) (n := 3) (Nat.le_of_ble_eq_true rfl)
  rw [lg_entry_eq]
  generalize (lg_sl ([.ref (E.2.1 147), .int a1, .int a2]) ++ List.replicate (3 - (lg_sl ([.ref (E.2.1 147), .int a1, .int a2])).length) Slot.unset).toArray = ls at hl ⊢
  have hl : lv_has ls 3 [(0, .ref (E.2.1 147)), (1, .int a1), (2, .int a2)] := hl
  unfold f_X12_areAlike at hf
  have kw0 := hts (.fieldLink RX12 13 "MilkTwiceModel" "kind" "[I") (List.mem_of_getElem? (i := 1) rfl)
  have kw1 := hts (.fieldLink RX12 16 "MilkTwiceModel" "figure" "[I") (List.mem_of_getElem? (i := 2) rfl)
  have hinX12 : ∀ w ∈ u_ws RX12 TX12 29, w ∈ wsX12_areAlike := fun w h => List.mem_cons_of_mem _ (List.mem_append_right _ h)
  refine lv_aload_n hx hb dX12_areAlike_0 rfl (lv_at hl 0 rfl) ?_
  refine mt_getr (C := RX12) (T := TX12) (N := 29) hx hb hts hinX12 hown hI hH mt_T147 rfl 1 (by decide) kw0 rfl rfl dX12_areAlike_1 ?_
  refine lv_iload_n hx hb dX12_areAlike_4 rfl (lv_at hl 1 rfl) ?_
  refine mt_ciI hf (fun q1 hf => ?_)
  refine mt_iald hx hb hI hH mt_T149 q1 dX12_areAlike_5 ?_
  refine lv_aload_n hx hb dX12_areAlike_6 rfl (lv_at hl 0 rfl) ?_
  refine mt_getr (C := RX12) (T := TX12) (N := 29) hx hb hts hinX12 hown hI hH mt_T147 rfl 1 (by decide) kw0 rfl rfl dX12_areAlike_7 ?_
  refine lv_iload_n hx hb dX12_areAlike_10 rfl (lv_at hl 2 rfl) ?_
  refine mt_ciI hf (fun q2 hf => ?_)
  refine mt_iald hx hb hI hH mt_T149 q2 dX12_areAlike_11 ?_
  refine lv_icmp_ne (tgt := 40) hx hb dX12_areAlike_12 (by decide) (fun c3 => ?_) (fun c3 => ?_)
  · have hf := mt_ifF c3 hf
    refine lv_iconst (v := 0) hx hb dX12_areAlike_40 (by decide) ?_
    have i1 := mt_so1 hf
    subst i1
    exact mt_zret hx hb hr hI hH hS (by decide) hlocks dX12_areAlike_41
  · have hf := mt_ifT c3 hf
    refine lv_aload_n hx hb dX12_areAlike_15 rfl (lv_at hl 0 rfl) ?_
    refine mt_getr (C := RX12) (T := TX12) (N := 29) hx hb hts hinX12 hown hI hH mt_T147 rfl 2 (by decide) kw1 rfl rfl dX12_areAlike_16 ?_
    refine lv_iload_n hx hb dX12_areAlike_19 rfl (lv_at hl 1 rfl) ?_
    refine mt_ciI hf (fun q4 hf => ?_)
    refine mt_iald hx hb hI hH mt_T150 q4 dX12_areAlike_20 ?_
    refine lv_aload_n hx hb dX12_areAlike_21 rfl (lv_at hl 0 rfl) ?_
    refine mt_getr (C := RX12) (T := TX12) (N := 29) hx hb hts hinX12 hown hI hH mt_T147 rfl 2 (by decide) kw1 rfl rfl dX12_areAlike_22 ?_
    refine lv_iload_n hx hb dX12_areAlike_25 rfl (lv_at hl 2 rfl) ?_
    refine mt_ciI hf (fun q5 hf => ?_)
    refine mt_iald hx hb hI hH mt_T150 q5 dX12_areAlike_26 ?_
    refine lv_isub hx hb dX12_areAlike_27 ?_
    refine lv_iconst (v := (-1)) hx hb dX12_areAlike_28 (by decide) ?_
    refine lv_iconst (v := 1) hx hb dX12_areAlike_29 (by decide) ?_
    refine mt_b1I hf (fun r7 hg6 hf => ?_)
    refine mt_goi (mt_runS (As := [.int ((M 150 a1.toNatClampNeg) - (M 150 a2.toNatClampNeg)), .int (-1 : Int32), .int (1 : Int32)]) (rest := []) ⟨hx, hb, hml, hown, hts⟩ hI hH (c_X12_isIn l E ((M 150 a1.toNatClampNeg) - (M 150 a2.toNatClampNeg)) (-1 : Int32) (1 : Int32) M u _ hg6) (va_cwS 3 hts gX12_areAlike_X12_isIn rfl rfl rfl (by decide +kernel) ⟨Nat.le_of_ble_eq_true rfl, Nat.le_of_ble_eq_true rfl⟩) rfl hl.1 rfl (Nat.le_of_ble_eq_true rfl) dX12_areAlike_30 ⟨Nat.zero_le _, Nat.zero_le _⟩) hS (fun H locs hH hS => ?_)
    refine lv_if_eq (tgt := 40) hx hb dX12_areAlike_33 (by decide) (fun c8 => ?_) (fun c8 => ?_)
    · have hf := mt_ifT c8 hf
      refine lv_iconst (v := 0) hx hb dX12_areAlike_40 (by decide) ?_
      have i1 := mt_so1 hf
      subst i1
      exact mt_zret hx hb hr hI hH hS (by decide) hlocks dX12_areAlike_41
    · have hf := mt_ifF c8 hf
      refine lv_iconst (v := 1) hx hb dX12_areAlike_36 (by decide) ?_
      refine lv_goto (tgt := 41) hx hb dX12_areAlike_37 (by decide) ?_
      have i1 := mt_so1 hf
      subst i1
      exact mt_zret hx hb hr hI hH hS (by decide) hlocks dX12_areAlike_41
set_option maxHeartbeats 4000000 in
set_option maxRecDepth 100000 in
theorem c_X12_groupOf (l : Launch) (E : mt_E) (a1 : Int32) (M : mt_M) (u : mt_U) (r : Int32) (hf : f_X12_groupOf a1 M = some (r)) : Met l yX12_groupOf wsX12_groupOf ({ frames := 2, cells := 0, slots := 0, locals := 44 } : Room) (mt_P E [.ref (E.2.1 147), .int a1] M u) (mt_Qi E r M u) 0 0 (mt_A E) := by
  refine Met.ofW (cc := cX12_groupOf) (maxL := 5) (ret := (some .int)) (by decide) rfl ?_
  intro p e s mid args below meth c0 s₁ B hml hv
  obtain ⟨rfl, hI, hH⟩ := hv
  have hx := B.exec
  have hb := B.bytes
  have hr := B.returns
  have hts := atoms_spec (ws := wsX12_groupOf) B.pre
  have hown : s.vm.findClass RX12 = some mid.cls := findClass_of_methodNamed B.named
  have hlocks := B.notSynchronized
  have hS : va_S (mt_A E) s.heap s.heap [] := va_S.rf
  have hl := lv_entry ([.ref (E.2.1 147), .int a1]) (n := 5) (Nat.le_of_ble_eq_true rfl)
  rw [lg_entry_eq]
  generalize (lg_sl ([.ref (E.2.1 147), .int a1]) ++ List.replicate (5 - (lg_sl ([.ref (E.2.1 147), .int a1])).length) Slot.unset).toArray = ls at hl ⊢
  have hl : lv_has ls 5 [(0, .ref (E.2.1 147)), (1, .int a1)] := hl
  unfold f_X12_groupOf at hf
  have kw0 := hts (.fieldLink RX12 59 "MilkTwiceModel" "things" "I") (List.mem_of_getElem? (i := 1) rfl)
  have hinX12 : ∀ w ∈ u_ws RX12 TX12 29, w ∈ wsX12_groupOf := fun w h => List.mem_cons_of_mem _ (List.mem_append_right _ h)
  refine lv_iconst (v := 1) hx hb dX12_groupOf_0 (by decide) ?_
  refine lv_iload_n hx hb dX12_groupOf_1 rfl (lv_at hl 1 rfl) ?_
  refine lv_ishl hx hb dX12_groupOf_2 ?_
  refine mt_lti hf (fun x1 ex1 hf => ?_)
  refine lv_istore_n (lv' := [(2, .int x1), (0, .ref (E.2.1 147)), (1, .int a1)]) hx hb dX12_groupOf_3 rfl hl (by decide) rfl (fun ls hl => ?_)
  refine lv_iconst (v := 0) hx hb dX12_groupOf_4 (by decide) ?_
  refine lv_istore_n (lv' := [(3, .int (0 : Int32)), (2, .int x1), (0, .ref (E.2.1 147)), (1, .int a1)]) hx hb dX12_groupOf_5 rfl hl (by decide) rfl (fun ls hl => ?_)
  refine mt_lpI2 hf (fun (x2 : Int32) (x3 : Int32) => ∀ (H : Heap) (locs : List Loc) (ls : Array Slot), mt_H E M u H → va_S (mt_A E) s.heap H locs → lv_has ls 5 [(0, .ref (E.2.1 147)), (2, .int x2), (3, .int x3)] → W p l e (headSpec wsX12_groupOf ({ frames := 2, cells := 0, slots := 0, locals := 44 } : Room)).room s mid (([.ref (E.2.1 147), .int a1] : List Value).toArray) below meth c0 H locs 0 0 (MQ below (mt_Qi E r M u) (([.ref (E.2.1 147), .int a1] : List Value).toArray) s 0 0 (mt_A E)) (F0 mid 6 ls [])) ?_ _ _ _ hH hS (lv_sub hl [2, 1, 0] rfl)
  intro k4 ih5 x2 x3 hf H locs ls hH hS hl
  refine lv_iload_n hx hb dX12_groupOf_6 rfl (lv_at hl 2 rfl) ?_
  refine lv_aload_n hx hb dX12_groupOf_7 rfl (lv_at hl 0 rfl) ?_
  refine mt_geti (C := RX12) (T := TX12) (N := 29) hx hb hts hinX12 hown hI hH mt_T147 rfl 8 (by decide) kw0 rfl rfl dX12_groupOf_8 ?_
  refine lv_icmp_ge (tgt := 94) hx hb dX12_groupOf_11 (by decide) (fun c6 => ?_) (fun c6 => ?_)
  · have hf := mt_ifT c6 hf
    refine lv_iload_n hx hb dX12_groupOf_94 rfl (lv_at hl 1 rfl) ?_
    have i1 := mt_so1 hf
    subst i1
    exact mt_iret hx hb hr hI hH hS hlocks dX12_groupOf_95
  · have hf := mt_ifF c6 hf
    refine lv_iconst (v := 0) hx hb dX12_groupOf_14 (by decide) ?_
    refine lv_istore (lv' := [(4, .int (0 : Int32)), (0, .ref (E.2.1 147)), (2, .int x2), (3, .int x3)]) hx hb dX12_groupOf_15 hl (by decide) rfl (fun ls hl => ?_)
    refine mt_lpI2 hf (fun (x7 : Int32) (x8 : Int32) => ∀ (H : Heap) (locs : List Loc) (ls : Array Slot), mt_H E M u H → va_S (mt_A E) s.heap H locs → lv_has ls 5 [(0, .ref (E.2.1 147)), (2, .int x7), (3, .int x3), (4, .int x8)] → W p l e (headSpec wsX12_groupOf ({ frames := 2, cells := 0, slots := 0, locals := 44 } : Room)).room s mid (([.ref (E.2.1 147), .int a1] : List Value).toArray) below meth c0 H locs 0 0 (MQ below (mt_Qi E r M u) (([.ref (E.2.1 147), .int a1] : List Value).toArray) s 0 0 (mt_A E)) (F0 mid 17 ls [])) ?_ _ _ _ hH hS (lv_sub hl [1, 2, 3, 0] rfl)
    intro k9 ih10 x7 x8 hf H locs ls hH hS hl
    refine lv_iload hx hb dX12_groupOf_17 (lv_at hl 3 rfl) ?_
    refine lv_aload_n hx hb dX12_groupOf_19 rfl (lv_at hl 0 rfl) ?_
    refine mt_geti (C := RX12) (T := TX12) (N := 29) hx hb hts hinX12 hown hI hH mt_T147 rfl 8 (by decide) kw0 rfl rfl dX12_groupOf_20 ?_
    refine lv_aload_n hx hb dX12_groupOf_23 rfl (lv_at hl 0 rfl) ?_
    refine mt_geti (C := RX12) (T := TX12) (N := 29) hx hb hts hinX12 hown hI hH mt_T147 rfl 8 (by decide) kw0 rfl rfl dX12_groupOf_24 ?_
    refine lv_imul hx hb dX12_groupOf_27 ?_
    refine lv_icmp_ge (tgt := 88) hx hb dX12_groupOf_28 (by decide) (fun c11 => ?_) (fun c11 => ?_)
    · have hf := mt_ifT c11 hf
      refine mt_ltI hf (fun x12 ex12 hf => ?_)
      refine lv_iinc (v := x12) (lv' := [(3, .int x12), (0, .ref (E.2.1 147)), (2, .int x7), (4, .int x8)]) hx hb dX12_groupOf_88 hl (k := 2) rfl (by rw [ex12]; rfl) (by decide) rfl (fun ls hl => ?_)
      refine lv_goto (tgt := 6) hx hb dX12_groupOf_91 (by decide) ?_
      exact ih5 x7 x12 hf _ _ _ hH hS (lv_sub hl [1, 2, 0] rfl)
    · have hf := mt_ifF c11 hf
      refine lv_iload_n hx hb dX12_groupOf_31 rfl (lv_at hl 1 rfl) ?_
      refine lv_iload_n hx hb dX12_groupOf_32 rfl (lv_at hl 1 rfl) ?_
      refine lv_iload hx hb dX12_groupOf_33 (lv_at hl 3 rfl) ?_
      refine lv_aload_n hx hb dX12_groupOf_35 rfl (lv_at hl 0 rfl) ?_
      refine mt_geti (C := RX12) (T := TX12) (N := 29) hx hb hts hinX12 hown hI hH mt_T147 rfl 8 (by decide) kw0 rfl rfl dX12_groupOf_36 ?_
      refine mt_ckI hf (fun q13 hf => ?_)
      refine lv_idiv hx hb dX12_groupOf_39 q13 ?_
      refine mt_b1I hf (fun r15 hg14 hf => ?_)
      refine mt_goi (mt_runS (As := [.int x7, .int (x8 / (M 147 8))]) (rest := [.int x7]) ⟨hx, hb, hml, hown, hts⟩ hI hH (c_X12_has l E x7 (x8 / (M 147 8)) M u _ hg14) (va_cwS 2 hts gX12_groupOf_X12_has rfl rfl rfl (by decide +kernel) ⟨Nat.le_of_ble_eq_true rfl, Nat.le_of_ble_eq_true rfl⟩) rfl hl.1 rfl (Nat.le_of_ble_eq_true rfl) dX12_groupOf_40 ⟨Nat.zero_le _, Nat.zero_le _⟩) hS (fun H locs hH hS => ?_)
      refine mt_jn1 hf (fun (v16 : Int32) => ∀ (H : Heap) (locs : List Loc) (ls : Array Slot), mt_H E M u H → va_S (mt_A E) s.heap H locs → lv_has ls 5 [(0, .ref (E.2.1 147)), (3, .int x3), (4, .int x8)] → W p l e (headSpec wsX12_groupOf ({ frames := 2, cells := 0, slots := 0, locals := 44 } : Room)).room s mid (([.ref (E.2.1 147), .int a1] : List Value).toArray) below meth c0 H locs 0 0 (MQ below (mt_Qi E r M u) (([.ref (E.2.1 147), .int a1] : List Value).toArray) s 0 0 (mt_A E)) (F0 mid 80 ls [.int v16, .int x7])) ?_ ?_
      · intro v16 hf H locs ls hH hS hl
        refine lv_ior hx hb dX12_groupOf_80 ?_
        refine mt_lti hf (fun x19 ex19 hf => ?_)
        refine lv_istore_n (lv' := [(2, .int x19), (0, .ref (E.2.1 147)), (3, .int x3), (4, .int x8)]) hx hb dX12_groupOf_81 rfl hl (by decide) rfl (fun ls hl => ?_)
        refine mt_ltI hf (fun x20 ex20 hf => ?_)
        refine lv_iinc (v := x20) (lv' := [(4, .int x20), (2, .int x19), (0, .ref (E.2.1 147)), (3, .int x3)]) hx hb dX12_groupOf_82 hl (k := 3) rfl (by rw [ex20]; rfl) (by decide) rfl (fun ls hl => ?_)
        refine lv_goto (tgt := 17) hx hb dX12_groupOf_85 (by decide) ?_
        exact ih10 x19 x20 hf _ _ _ hH hS (lv_sub hl [2, 1, 3, 0] rfl)
      · intro j17 hj18 hf
        refine mt_jn0 hf (∀ (H : Heap) (locs : List Loc) (ls : Array Slot), mt_H E M u H → va_S (mt_A E) s.heap H locs → lv_has ls 5 [(0, .ref (E.2.1 147)), (3, .int x3), (4, .int x8)] → W p l e (headSpec wsX12_groupOf ({ frames := 2, cells := 0, slots := 0, locals := 44 } : Room)).room s mid (([.ref (E.2.1 147), .int a1] : List Value).toArray) below meth c0 H locs 0 0 (MQ below (mt_Qi E r M u) (([.ref (E.2.1 147), .int a1] : List Value).toArray) s 0 0 (mt_A E)) (F0 mid 79 ls [.int x7])) ?_ ?_
        · intro hf H locs ls hH hS hl
          refine lv_iconst (v := 0) hx hb dX12_groupOf_79 (by decide) ?_
          exact hj18 (0 : Int32) hf _ _ _ hH hS (lv_sub hl [0, 1, 2] rfl)
        · intro j21 hj22 hf
          refine lv_if_eq (tgt := 79) hx hb dX12_groupOf_43 (by decide) (fun c23 => ?_) (fun c23 => ?_)
          · have hf := mt_ifT c23 hf
            exact hj22 hf _ _ _ hH hS (lv_sub hl [0, 2, 3] rfl)
          · have hf := mt_ifF c23 hf
            refine lv_aload_n hx hb dX12_groupOf_46 rfl (lv_at hl 0 rfl) ?_
            refine lv_iload hx hb dX12_groupOf_47 (lv_at hl 3 rfl) ?_
            refine lv_aload_n hx hb dX12_groupOf_49 rfl (lv_at hl 0 rfl) ?_
            refine mt_geti (C := RX12) (T := TX12) (N := 29) hx hb hts hinX12 hown hI hH mt_T147 rfl 8 (by decide) kw0 rfl rfl dX12_groupOf_50 ?_
            refine mt_ckI hf (fun q24 hf => ?_)
            refine lv_idiv hx hb dX12_groupOf_53 q24 ?_
            refine lv_iload hx hb dX12_groupOf_54 (lv_at hl 3 rfl) ?_
            refine lv_aload_n hx hb dX12_groupOf_56 rfl (lv_at hl 0 rfl) ?_
            refine mt_geti (C := RX12) (T := TX12) (N := 29) hx hb hts hinX12 hown hI hH mt_T147 rfl 8 (by decide) kw0 rfl rfl dX12_groupOf_57 ?_
            refine mt_ckI hf (fun q25 hf => ?_)
            refine lv_irem hx hb dX12_groupOf_60 q25 ?_
            refine mt_b1I hf (fun r27 hg26 hf => ?_)
            refine mt_goi (mt_runV (i := 147) (As := [.int (x8 / (M 147 8)), .int (x8 - x8 / (M 147 8) * (M 147 8))]) (rest := [.int x7]) ⟨hx, hb, hml, hown, hts⟩ hI hH (c_X12_areAlike l E (x8 / (M 147 8)) (x8 - x8 / (M 147 8) * (M 147 8)) M u _ hg26) (cwV 2 hts gX12_groupOf_X12_areAlike rfl rfl rfl (by decide +kernel) ⟨Nat.le_of_ble_eq_true rfl, Nat.le_of_ble_eq_true rfl⟩) mt_T147 rfl rfl hl.1 rfl (Nat.le_of_ble_eq_true rfl) dX12_groupOf_61 ⟨Nat.zero_le _, Nat.zero_le _⟩) hS (fun H locs hH hS => ?_)
            refine lv_if_eq (tgt := 79) hx hb dX12_groupOf_64 (by decide) (fun c28 => ?_) (fun c28 => ?_)
            · have hf := mt_ifT c28 hf
              exact hj22 hf _ _ _ hH hS (lv_sub hl [0, 2, 3] rfl)
            · have hf := mt_ifF c28 hf
              refine lv_iconst (v := 1) hx hb dX12_groupOf_67 (by decide) ?_
              refine lv_iload hx hb dX12_groupOf_68 (lv_at hl 3 rfl) ?_
              refine lv_aload_n hx hb dX12_groupOf_70 rfl (lv_at hl 0 rfl) ?_
              refine mt_geti (C := RX12) (T := TX12) (N := 29) hx hb hts hinX12 hown hI hH mt_T147 rfl 8 (by decide) kw0 rfl rfl dX12_groupOf_71 ?_
              refine mt_ckI hf (fun q29 hf => ?_)
              refine lv_irem hx hb dX12_groupOf_74 q29 ?_
              refine lv_ishl hx hb dX12_groupOf_75 ?_
              refine lv_goto (tgt := 80) hx hb dX12_groupOf_76 (by decide) ?_
              exact hj18 ((1 : Int32) <<< ((x8 - x8 / (M 147 8) * (M 147 8)) &&& 31)) hf _ _ _ hH hS (lv_sub hl [0, 2, 3] rfl)
set_option maxHeartbeats 4000000 in
set_option maxRecDepth 100000 in
theorem c_X12_alike (l : Launch) (E : mt_E) (a1 : Int32) (M : mt_M) (u : mt_U) (r : Int32) (M' : mt_M) (hf : f_X12_alike a1 M = some (r, M')) : Met l yX12_alike wsX12_alike ({ frames := 3, cells := 0, slots := 0, locals := 68 } : Room) (mt_P E [.ref (E.2.1 147), .int a1] M u) (mt_Qi E r M' u) 0 0 (mt_A E) := by
  refine Met.ofW (cc := cX12_alike) (maxL := 6) (ret := (some .int)) (by decide) rfl ?_
  intro p e s mid args below meth c0 s₁ B hml hv
  obtain ⟨rfl, hI, hH⟩ := hv
  have hx := B.exec
  have hb := B.bytes
  have hr := B.returns
  have hts := atoms_spec (ws := wsX12_alike) B.pre
  have hown : s.vm.findClass RX12 = some mid.cls := findClass_of_methodNamed B.named
  have hlocks := B.notSynchronized
  have hS : va_S (mt_A E) s.heap s.heap [] := va_S.rf
  have hl := lv_entry ([.ref (E.2.1 147), .int a1]) (n := 6) (Nat.le_of_ble_eq_true rfl)
  rw [lg_entry_eq]
  generalize (lg_sl ([.ref (E.2.1 147), .int a1]) ++ List.replicate (6 - (lg_sl ([.ref (E.2.1 147), .int a1])).length) Slot.unset).toArray = ls at hl ⊢
  have hl : lv_has ls 6 [(0, .ref (E.2.1 147)), (1, .int a1)] := hl
  unfold f_X12_alike at hf
  have kw0 := hts (.fieldLink RX12 59 "MilkTwiceModel" "things" "I") (List.mem_of_getElem? (i := 1) rfl)
  have hinX12 : ∀ w ∈ u_ws RX12 TX12 29, w ∈ wsX12_alike := fun w h => List.mem_cons_of_mem _ (List.mem_append_right _ h)
  refine lv_iload_n hx hb dX12_alike_0 rfl (lv_at hl 1 rfl) ?_
  refine lv_iconst (v := 0) hx hb dX12_alike_1 (by decide) ?_
  refine lv_iconst (v := 1) hx hb dX12_alike_2 (by decide) ?_
  refine mt_b1I hf (fun r2 hg1 hf => ?_)
  refine mt_goi (mt_runS (As := [.int a1, .int (0 : Int32), .int (1 : Int32)]) (rest := []) ⟨hx, hb, hml, hown, hts⟩ hI hH (c_X12_isIn l E a1 (0 : Int32) (1 : Int32) M u _ hg1) (va_cwS 3 hts gX12_alike_X12_isIn rfl rfl rfl (by decide +kernel) ⟨Nat.le_of_ble_eq_true rfl, Nat.le_of_ble_eq_true rfl⟩) rfl hl.1 rfl (Nat.le_of_ble_eq_true rfl) dX12_alike_3 ⟨Nat.zero_le _, Nat.zero_le _⟩) hS (fun H locs hH hS => ?_)
  refine lv_if_ne (tgt := 16) hx hb dX12_alike_6 (by decide) (fun c3 => ?_) (fun c3 => ?_)
  · have hf := mt_ifF c3 hf
    refine lv_iconst (v := 0) hx hb dX12_alike_16 (by decide) ?_
    refine lv_istore_n (lv' := [(2, .int (0 : Int32)), (0, .ref (E.2.1 147)), (1, .int a1)]) hx hb dX12_alike_17 rfl hl (by decide) rfl (fun ls hl => ?_)
    refine lv_iconst (v := 0) hx hb dX12_alike_18 (by decide) ?_
    refine lv_istore_n (lv' := [(3, .int (0 : Int32)), (2, .int (0 : Int32)), (0, .ref (E.2.1 147)), (1, .int a1)]) hx hb dX12_alike_19 rfl hl (by decide) rfl (fun ls hl => ?_)
    refine lv_iconst (v := 0) hx hb dX12_alike_20 (by decide) ?_
    refine lv_istore (lv' := [(4, .int (0 : Int32)), (3, .int (0 : Int32)), (2, .int (0 : Int32)), (0, .ref (E.2.1 147)), (1, .int a1)]) hx hb dX12_alike_21 hl (by decide) rfl (fun ls hl => ?_)
    refine mt_lpI3 hf (fun (x4 : Int32) (x5 : Int32) (x6 : Int32) => ∀ (H : Heap) (locs : List Loc) (ls : Array Slot), mt_H E M u H → va_S (mt_A E) s.heap H locs → lv_has ls 6 [(0, .ref (E.2.1 147)), (1, .int a1), (2, .int x4), (3, .int x5), (4, .int x6)] → W p l e (headSpec wsX12_alike ({ frames := 3, cells := 0, slots := 0, locals := 68 } : Room)).room s mid (([.ref (E.2.1 147), .int a1] : List Value).toArray) below meth c0 H locs 0 0 (MQ below (mt_Qi E r M' u) (([.ref (E.2.1 147), .int a1] : List Value).toArray) s 0 0 (mt_A E)) (F0 mid 23 ls [])) ?_ _ _ _ hH hS (lv_sub hl [3, 4, 2, 1, 0] rfl)
    intro k7 ih8 x4 x5 x6 hf H locs ls hH hS hl
    refine lv_iload hx hb dX12_alike_23 (lv_at hl 4 rfl) ?_
    refine lv_aload_n hx hb dX12_alike_25 rfl (lv_at hl 0 rfl) ?_
    refine mt_geti (C := RX12) (T := TX12) (N := 29) hx hb hts hinX12 hown hI hH mt_T147 rfl 8 (by decide) kw0 rfl rfl dX12_alike_26 ?_
    refine lv_icmp_ge (tgt := 102) hx hb dX12_alike_29 (by decide) (fun c9 => ?_) (fun c9 => ?_)
    · have hf := mt_ifT c9 hf
      refine lv_iload_n hx hb dX12_alike_102 rfl (lv_at hl 1 rfl) ?_
      refine lv_if_ne (tgt := 110) hx hb dX12_alike_103 (by decide) (fun c10 => ?_) (fun c10 => ?_)
      · have hf := mt_ifF c10 hf
        refine lv_aload_n hx hb dX12_alike_110 rfl (lv_at hl 0 rfl) ?_
        refine mt_geti (C := RX12) (T := TX12) (N := 29) hx hb hts hinX12 hown hI hH mt_T147 rfl 8 (by decide) kw0 rfl rfl dX12_alike_111 ?_
        refine lv_iload_n hx hb dX12_alike_114 rfl (lv_at hl 3 rfl) ?_
        refine lv_isub hx hb dX12_alike_115 ?_
        obtain ⟨i1, i2⟩ := mt_so2 hf
        subst i1
        subst i2
        exact mt_iret hx hb hr hI hH hS hlocks dX12_alike_116
      · have hf := mt_ifT c10 hf
        refine lv_iload_n hx hb dX12_alike_106 rfl (lv_at hl 2 rfl) ?_
        refine lv_goto (tgt := 116) hx hb dX12_alike_107 (by decide) ?_
        obtain ⟨i1, i2⟩ := mt_so2 hf
        subst i1
        subst i2
        exact mt_iret hx hb hr hI hH hS hlocks dX12_alike_116
    · have hf := mt_ifF c9 hf
      refine lv_iload_n hx hb dX12_alike_32 rfl (lv_at hl 3 rfl) ?_
      refine lv_aload_n hx hb dX12_alike_33 rfl (lv_at hl 0 rfl) ?_
      refine lv_iload hx hb dX12_alike_34 (lv_at hl 4 rfl) ?_
      refine mt_b1I hf (fun r12 hg11 hf => ?_)
      refine mt_goi (mt_runV (i := 147) (As := [.int x6]) (rest := [.int x5]) ⟨hx, hb, hml, hown, hts⟩ hI hH (c_X12_groupOf l E x6 M u _ hg11) (cwV 1 hts gX12_alike_X12_groupOf rfl rfl rfl (by decide +kernel) ⟨Nat.le_of_ble_eq_true rfl, Nat.le_of_ble_eq_true rfl⟩) mt_T147 rfl rfl hl.1 rfl (Nat.le_of_ble_eq_true rfl) dX12_alike_36 ⟨Nat.zero_le _, Nat.zero_le _⟩) hS (fun H locs hH hS => ?_)
      refine lv_iconst (v := 1) hx hb dX12_alike_39 (by decide) ?_
      refine lv_iload hx hb dX12_alike_40 (lv_at hl 4 rfl) ?_
      refine lv_ishl hx hb dX12_alike_42 ?_
      refine lv_iconst (v := 1) hx hb dX12_alike_43 (by decide) ?_
      refine lv_isub hx hb dX12_alike_44 ?_
      refine lv_iand hx hb dX12_alike_45 ?_
      refine mt_jn1 hf (fun (v13 : Int32) => ∀ (H : Heap) (locs : List Loc) (ls : Array Slot), mt_H E M u H → va_S (mt_A E) s.heap H locs → lv_has ls 6 [(0, .ref (E.2.1 147)), (1, .int a1), (2, .int x4), (4, .int x6)] → W p l e (headSpec wsX12_alike ({ frames := 3, cells := 0, slots := 0, locals := 68 } : Room)).room s mid (([.ref (E.2.1 147), .int a1] : List Value).toArray) below meth c0 H locs 0 0 (MQ below (mt_Qi E r M' u) (([.ref (E.2.1 147), .int a1] : List Value).toArray) s 0 0 (mt_A E)) (F0 mid 54 ls [.int v13, .int x5])) ?_ ?_
      · intro v13 hf H locs ls hH hS hl
        refine lv_iadd hx hb dX12_alike_54 ?_
        refine mt_lti hf (fun x16 ex16 hf => ?_)
        refine lv_istore_n (lv' := [(3, .int x16), (0, .ref (E.2.1 147)), (1, .int a1), (2, .int x4), (4, .int x6)]) hx hb dX12_alike_55 rfl hl (by decide) rfl (fun ls hl => ?_)
        refine lv_iload hx hb dX12_alike_56 (lv_at hl 4 rfl) ?_
        refine lv_iconst (v := 1) hx hb dX12_alike_58 (by decide) ?_
        refine lv_iadd hx hb dX12_alike_59 ?_
        refine mt_lti hf (fun x17 ex17 hf => ?_)
        refine lv_istore (lv' := [(5, .int x17), (3, .int x16), (0, .ref (E.2.1 147)), (1, .int a1), (2, .int x4), (4, .int x6)]) hx hb dX12_alike_60 hl (by decide) rfl (fun ls hl => ?_)
        refine mt_lpI2 hf (fun (x18 : Int32) (x19 : Int32) => ∀ (H : Heap) (locs : List Loc) (ls : Array Slot), mt_H E M u H → va_S (mt_A E) s.heap H locs → lv_has ls 6 [(0, .ref (E.2.1 147)), (1, .int a1), (2, .int x18), (3, .int x16), (4, .int x6), (5, .int x19)] → W p l e (headSpec wsX12_alike ({ frames := 3, cells := 0, slots := 0, locals := 68 } : Room)).room s mid (([.ref (E.2.1 147), .int a1] : List Value).toArray) below meth c0 H locs 0 0 (MQ below (mt_Qi E r M' u) (([.ref (E.2.1 147), .int a1] : List Value).toArray) s 0 0 (mt_A E)) (F0 mid 62 ls [])) ?_ _ _ _ hH hS (lv_sub hl [2, 3, 4, 1, 5, 0] rfl)
        intro k20 ih21 x18 x19 hf H locs ls hH hS hl
        refine lv_iload hx hb dX12_alike_62 (lv_at hl 5 rfl) ?_
        refine lv_aload_n hx hb dX12_alike_64 rfl (lv_at hl 0 rfl) ?_
        refine mt_geti (C := RX12) (T := TX12) (N := 29) hx hb hts hinX12 hown hI hH mt_T147 rfl 8 (by decide) kw0 rfl rfl dX12_alike_65 ?_
        refine lv_icmp_ge (tgt := 96) hx hb dX12_alike_68 (by decide) (fun c22 => ?_) (fun c22 => ?_)
        · have hf := mt_ifT c22 hf
          refine mt_ltI hf (fun x23 ex23 hf => ?_)
          refine lv_iinc (v := x23) (lv' := [(4, .int x23), (0, .ref (E.2.1 147)), (1, .int a1), (2, .int x18), (3, .int x16), (5, .int x19)]) hx hb dX12_alike_96 hl (k := 4) rfl (by rw [ex23]; rfl) (by decide) rfl (fun ls hl => ?_)
          refine lv_goto (tgt := 23) hx hb dX12_alike_99 (by decide) ?_
          exact ih8 x18 x16 x23 hf _ _ _ hH hS (lv_sub hl [1, 2, 3, 4, 0] rfl)
        · have hf := mt_ifF c22 hf
          refine lv_iload_n hx hb dX12_alike_71 rfl (lv_at hl 2 rfl) ?_
          refine lv_aload_n hx hb dX12_alike_72 rfl (lv_at hl 0 rfl) ?_
          refine lv_iload hx hb dX12_alike_73 (lv_at hl 4 rfl) ?_
          refine lv_iload hx hb dX12_alike_75 (lv_at hl 5 rfl) ?_
          refine mt_b1I hf (fun r25 hg24 hf => ?_)
          refine mt_goi (mt_runV (i := 147) (As := [.int x6, .int x19]) (rest := [.int x18]) ⟨hx, hb, hml, hown, hts⟩ hI hH (c_X12_areAlike l E x6 x19 M u _ hg24) (cwV 2 hts gX12_alike_X12_areAlike rfl rfl rfl (by decide +kernel) ⟨Nat.le_of_ble_eq_true rfl, Nat.le_of_ble_eq_true rfl⟩) mt_T147 rfl rfl hl.1 rfl (Nat.le_of_ble_eq_true rfl) dX12_alike_77 ⟨Nat.zero_le _, Nat.zero_le _⟩) hS (fun H locs hH hS => ?_)
          refine mt_jn1 hf (fun (v26 : Int32) => ∀ (H : Heap) (locs : List Loc) (ls : Array Slot), mt_H E M u H → va_S (mt_A E) s.heap H locs → lv_has ls 6 [(0, .ref (E.2.1 147)), (1, .int a1), (3, .int x16), (4, .int x6), (5, .int x19)] → W p l e (headSpec wsX12_alike ({ frames := 3, cells := 0, slots := 0, locals := 68 } : Room)).room s mid (([.ref (E.2.1 147), .int a1] : List Value).toArray) below meth c0 H locs 0 0 (MQ below (mt_Qi E r M' u) (([.ref (E.2.1 147), .int a1] : List Value).toArray) s 0 0 (mt_A E)) (F0 mid 88 ls [.int v26, .int x18])) ?_ ?_
          · intro v26 hf H locs ls hH hS hl
            refine lv_iadd hx hb dX12_alike_88 ?_
            refine mt_lti hf (fun x29 ex29 hf => ?_)
            refine lv_istore_n (lv' := [(2, .int x29), (0, .ref (E.2.1 147)), (1, .int a1), (3, .int x16), (4, .int x6), (5, .int x19)]) hx hb dX12_alike_89 rfl hl (by decide) rfl (fun ls hl => ?_)
            refine mt_ltI hf (fun x30 ex30 hf => ?_)
            refine lv_iinc (v := x30) (lv' := [(5, .int x30), (2, .int x29), (0, .ref (E.2.1 147)), (1, .int a1), (3, .int x16), (4, .int x6)]) hx hb dX12_alike_90 hl (k := 5) rfl (by rw [ex30]; rfl) (by decide) rfl (fun ls hl => ?_)
            refine lv_goto (tgt := 62) hx hb dX12_alike_93 (by decide) ?_
            exact ih21 x29 x30 hf _ _ _ hH hS (lv_sub hl [2, 3, 1, 4, 5, 0] rfl)
          · intro j27 hj28 hf
            refine lv_if_eq (tgt := 87) hx hb dX12_alike_80 (by decide) (fun c31 => ?_) (fun c31 => ?_)
            · have hf := mt_ifT c31 hf
              refine lv_iconst (v := 0) hx hb dX12_alike_87 (by decide) ?_
              exact hj28 (0 : Int32) hf _ _ _ hH hS (lv_sub hl [0, 1, 3, 4, 5] rfl)
            · have hf := mt_ifF c31 hf
              refine lv_iconst (v := 1) hx hb dX12_alike_83 (by decide) ?_
              refine lv_goto (tgt := 88) hx hb dX12_alike_84 (by decide) ?_
              exact hj28 (1 : Int32) hf _ _ _ hH hS (lv_sub hl [0, 1, 3, 4, 5] rfl)
      · intro j14 hj15 hf
        refine lv_if_ne (tgt := 53) hx hb dX12_alike_46 (by decide) (fun c32 => ?_) (fun c32 => ?_)
        · have hf := mt_ifF c32 hf
          refine lv_iconst (v := 0) hx hb dX12_alike_53 (by decide) ?_
          exact hj15 (0 : Int32) hf _ _ _ hH hS (lv_sub hl [0, 1, 2, 4] rfl)
        · have hf := mt_ifT c32 hf
          refine lv_iconst (v := 1) hx hb dX12_alike_49 (by decide) ?_
          refine lv_goto (tgt := 54) hx hb dX12_alike_50 (by decide) ?_
          exact hj15 (1 : Int32) hf _ _ _ hH hS (lv_sub hl [0, 1, 2, 4] rfl)
  · have hf := mt_ifT c3 hf
    refine lv_aload_n hx hb dX12_alike_9 rfl (lv_at hl 0 rfl) ?_
    refine lv_bipush (v := (-2)) hx hb dX12_alike_10 (by decide) ?_
    refine mt_b2I hf (fun r34 M35 hg33 hf => ?_)
    refine mt_goi (mt_runV (i := 147) (As := [.int (-2 : Int32)]) (rest := []) ⟨hx, hb, hml, hown, hts⟩ hI hH (c_X12_no l E (-2 : Int32) M u _ _ hg33) (cwV 1 hts gX12_alike_X12_no rfl rfl rfl (by decide +kernel) ⟨Nat.le_of_ble_eq_true rfl, Nat.le_of_ble_eq_true rfl⟩) mt_T147 rfl rfl hl.1 rfl (Nat.le_of_ble_eq_true rfl) dX12_alike_12 ⟨Nat.zero_le _, Nat.zero_le _⟩) hS (fun H locs hH hS => ?_)
    obtain ⟨i1, i2⟩ := mt_so2 hf
    subst i1
    subst i2
    exact mt_iret hx hb hr hI hH hS hlocks dX12_alike_15
set_option maxHeartbeats 4000000 in
set_option maxRecDepth 100000 in
theorem c_X12_isShort (l : Launch) (E : mt_E)  (M : mt_M) (u : mt_U) (r : Int32) (hf : f_X12_isShort M = some (r)) : Met l yX12_isShort wsX12_isShort ({ frames := 0, cells := 0, slots := 0, locals := 0 } : Room) (mt_P E [.ref (E.2.1 147)] M u) (mt_Qi E r M u) 0 0 (mt_A E) := by
  refine Met.ofW (cc := cX12_isShort) (maxL := 2) (ret := (some .boolean)) (by decide) rfl ?_
  intro p e s mid args below meth c0 s₁ B hml hv
  obtain ⟨rfl, hI, hH⟩ := hv
  have hx := B.exec
  have hb := B.bytes
  have hr := B.returns
  have hts := atoms_spec (ws := wsX12_isShort) B.pre
  have hown : s.vm.findClass RX12 = some mid.cls := findClass_of_methodNamed B.named
  have hlocks := B.notSynchronized
  have hS : va_S (mt_A E) s.heap s.heap [] := va_S.rf
  have hl := lv_entry ([.ref (E.2.1 147)]) (n := 2) (Nat.le_of_ble_eq_true rfl)
  rw [lg_entry_eq]
  generalize (lg_sl ([.ref (E.2.1 147)]) ++ List.replicate (2 - (lg_sl ([.ref (E.2.1 147)])).length) Slot.unset).toArray = ls at hl ⊢
  have hl : lv_has ls 2 [(0, .ref (E.2.1 147))] := hl
  unfold f_X12_isShort at hf
  have kw0 := hts (.fieldLink RX12 59 "MilkTwiceModel" "things" "I") (List.mem_of_getElem? (i := 1) rfl)
  have kw1 := hts (.fieldLink RX12 22 "MilkTwiceModel" "stocked" "[I") (List.mem_of_getElem? (i := 2) rfl)
  have kw2 := hts (.fieldLink RX12 19 "MilkTwiceModel" "use" "[I") (List.mem_of_getElem? (i := 3) rfl)
  have hinX12 : ∀ w ∈ u_ws RX12 TX12 29, w ∈ wsX12_isShort := fun w h => List.mem_cons_of_mem _ (List.mem_append_right _ h)
  refine lv_iconst (v := 0) hx hb dX12_isShort_0 (by decide) ?_
  refine lv_istore_n (lv' := [(1, .int (0 : Int32)), (0, .ref (E.2.1 147))]) hx hb dX12_isShort_1 rfl hl (by decide) rfl (fun ls hl => ?_)
  refine mt_lpI1 hf (fun (x1 : Int32) => ∀ (H : Heap) (locs : List Loc) (ls : Array Slot), mt_H E M u H → va_S (mt_A E) s.heap H locs → lv_has ls 2 [(0, .ref (E.2.1 147)), (1, .int x1)] → W p l e (headSpec wsX12_isShort ({ frames := 0, cells := 0, slots := 0, locals := 0 } : Room)).room s mid (([.ref (E.2.1 147)] : List Value).toArray) below meth c0 H locs 0 0 (MQ below (mt_Qi E r M u) (([.ref (E.2.1 147)] : List Value).toArray) s 0 0 (mt_A E)) (F0 mid 2 ls [])) ?_ _ _ _ hH hS (lv_sub hl [1, 0] rfl)
  intro k2 ih3 x1 hf H locs ls hH hS hl
  refine lv_iload_n hx hb dX12_isShort_2 rfl (lv_at hl 1 rfl) ?_
  refine lv_aload_n hx hb dX12_isShort_3 rfl (lv_at hl 0 rfl) ?_
  refine mt_geti (C := RX12) (T := TX12) (N := 29) hx hb hts hinX12 hown hI hH mt_T147 rfl 8 (by decide) kw0 rfl rfl dX12_isShort_4 ?_
  refine lv_icmp_ge (tgt := 33) hx hb dX12_isShort_7 (by decide) (fun c4 => ?_) (fun c4 => ?_)
  · have hf := mt_ifT c4 hf
    refine lv_iconst (v := 0) hx hb dX12_isShort_33 (by decide) ?_
    have i1 := mt_so1 hf
    subst i1
    exact mt_zret hx hb hr hI hH hS (by decide) hlocks dX12_isShort_34
  · have hf := mt_ifF c4 hf
    refine lv_aload_n hx hb dX12_isShort_10 rfl (lv_at hl 0 rfl) ?_
    refine mt_getr (C := RX12) (T := TX12) (N := 29) hx hb hts hinX12 hown hI hH mt_T147 rfl 4 (by decide) kw1 rfl rfl dX12_isShort_11 ?_
    refine lv_iload_n hx hb dX12_isShort_14 rfl (lv_at hl 1 rfl) ?_
    refine mt_ciI hf (fun q5 hf => ?_)
    refine mt_iald hx hb hI hH mt_T152 q5 dX12_isShort_15 ?_
    refine lv_aload_n hx hb dX12_isShort_16 rfl (lv_at hl 0 rfl) ?_
    refine mt_getr (C := RX12) (T := TX12) (N := 29) hx hb hts hinX12 hown hI hH mt_T147 rfl 3 (by decide) kw2 rfl rfl dX12_isShort_17 ?_
    refine lv_iload_n hx hb dX12_isShort_20 rfl (lv_at hl 1 rfl) ?_
    refine mt_ciI hf (fun q6 hf => ?_)
    refine mt_iald hx hb hI hH mt_T151 q6 dX12_isShort_21 ?_
    refine lv_icmp_ge (tgt := 27) hx hb dX12_isShort_22 (by decide) (fun c7 => ?_) (fun c7 => ?_)
    · have hf := mt_ifT c7 hf
      refine mt_ltI hf (fun x8 ex8 hf => ?_)
      refine lv_iinc (v := x8) (lv' := [(1, .int x8), (0, .ref (E.2.1 147))]) hx hb dX12_isShort_27 hl (k := 1) rfl (by rw [ex8]; rfl) (by decide) rfl (fun ls hl => ?_)
      refine lv_goto (tgt := 2) hx hb dX12_isShort_30 (by decide) ?_
      exact ih3 x8 hf _ _ _ hH hS (lv_sub hl [1, 0] rfl)
    · have hf := mt_ifF c7 hf
      refine lv_iconst (v := 1) hx hb dX12_isShort_25 (by decide) ?_
      have i1 := mt_so1 hf
      subst i1
      exact mt_zret hx hb hr hI hH hS (by decide) hlocks dX12_isShort_26

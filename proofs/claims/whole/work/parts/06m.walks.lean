/-! THE WALKS, laid by program: each method returns what its pure function says, and leaves the memory so -/
set_option maxHeartbeats 4000000 in
set_option maxRecDepth 100000 in
theorem c_X12_turns (l : Launch) (E : mt_E) (a1 : Int32) (a2 : Int32) (M : mt_M) (u : mt_U) (r : Int32) (M' : mt_M) (hf : f_X12_turns a1 a2 M = some (r, M')) : Met l yX12_turns wsX12_turns ({ frames := 3, cells := 0, slots := 0, locals := 67 } : Room) (mt_P E [.ref (E.2.1 147), .int a1, .int a2] M u) (mt_Qi E r M' u) 0 0 (mt_A E) := by
  refine Met.ofW (cc := cX12_turns) (maxL := 10) (ret := (some .int)) (by decide) rfl ?_
  intro p e s mid args below meth c0 s₁ B hml hv
  obtain ⟨rfl, hI, hH⟩ := hv
  have hx := B.exec
  have hb := B.bytes
  have hr := B.returns
  have hts := atoms_spec (ws := wsX12_turns) B.pre
  have hown : s.vm.findClass RX12 = some mid.cls := findClass_of_methodNamed B.named
  have hlocks := B.notSynchronized
  have hS : va_S (mt_A E) s.heap s.heap [] := va_S.rf
  have hl := lv_entry ([.ref (E.2.1 147), .int a1, .int a2]) (n := 10) (Nat.le_of_ble_eq_true rfl)
  rw [lg_entry_eq]
  generalize (lg_sl ([.ref (E.2.1 147), .int a1, .int a2]) ++ List.replicate (10 - (lg_sl ([.ref (E.2.1 147), .int a1, .int a2])).length) Slot.unset).toArray = ls at hl ⊢
  have hl : lv_has ls 10 [(0, .ref (E.2.1 147)), (1, .int a1), (2, .int a2)] := hl
  unfold f_X12_turns at hf
  have kw0 := hts (.fieldLink RX12 31 "MilkTwiceModel" "sums" "[I") (List.mem_of_getElem? (i := 1) rfl)
  have kw1 := hts (.fieldLink RX12 59 "MilkTwiceModel" "things" "I") (List.mem_of_getElem? (i := 3) rfl)
  have kw2 := hts (.fieldLink RX12 22 "MilkTwiceModel" "stocked" "[I") (List.mem_of_getElem? (i := 4) rfl)
  have kw3 := hts (.fieldLink RX12 19 "MilkTwiceModel" "use" "[I") (List.mem_of_getElem? (i := 5) rfl)
  have kw4 := hts (.fieldLink RX12 121 "MilkTwiceModel" "days" "I") (List.mem_of_getElem? (i := 2) rfl)
  have hinX12 : ∀ w ∈ u_ws RX12 TX12 29, w ∈ wsX12_turns := fun w h => List.mem_cons_of_mem _ (List.mem_append_right _ h)
  refine lv_iload_n hx hb dX12_turns_0 rfl (lv_at hl 1 rfl) ?_
  refine lv_iconst (v := 1) hx hb dX12_turns_1 (by decide) ?_
  refine lv_bipush (v := 60) hx hb dX12_turns_2 (by decide) ?_
  refine mt_b1I hf (fun r2 hg1 hf => ?_)
  refine mt_goi (mt_runS (As := [.int a1, .int (1 : Int32), .int (60 : Int32)]) (rest := []) ⟨hx, hb, hml, hown, hts⟩ hI hH (c_X12_bound l E a1 (1 : Int32) (60 : Int32) M u _ hg1) (va_cwS 3 hts gX12_turns_X12_bound rfl rfl rfl (by decide +kernel) ⟨Nat.le_of_ble_eq_true rfl, Nat.le_of_ble_eq_true rfl⟩) rfl hl.1 rfl (Nat.le_of_ble_eq_true rfl) dX12_turns_4 ⟨Nat.zero_le _, Nat.zero_le _⟩) hS (fun H locs hH hS => ?_)
  refine lv_istore_n (lv' := [(3, .int r2), (0, .ref (E.2.1 147)), (1, .int a1), (2, .int a2)]) hx hb dX12_turns_7 rfl hl (by decide) rfl (fun ls hl => ?_)
  refine lv_iload_n hx hb dX12_turns_8 rfl (lv_at hl 0 rfl) ?_
  refine mt_jn1 hf (fun (x3 : Int32) => ∀ (H : Heap) (locs : List Loc) (ls : Array Slot), mt_H E M u H → va_S (mt_A E) s.heap H locs → lv_has ls 10 [(0, .ref (E.2.1 147)), (1, .int a1), (2, .int a2), (3, .int x3)] → W p l e (headSpec wsX12_turns ({ frames := 3, cells := 0, slots := 0, locals := 67 } : Room)).room s mid (([.ref (E.2.1 147), .int a1, .int a2] : List Value).toArray) below meth c0 H locs 0 0 (MQ below (mt_Qi E r M' u) (([.ref (E.2.1 147), .int a1, .int a2] : List Value).toArray) s 0 0 (mt_A E)) (F0 mid 24 ls [])) ?_ ?_
  · intro x3 hf H locs ls hH hS hl
    refine lv_iload_n hx hb dX12_turns_24 rfl (lv_at hl 3 rfl) ?_
    refine lv_if_eq (tgt := 34) hx hb dX12_turns_25 (by decide) (fun c6 => ?_) (fun c6 => ?_)
    · have hf := mt_ifT c6 hf
      refine lv_aload_n hx hb dX12_turns_34 rfl (lv_at hl 0 rfl) ?_
      refine mt_b1I hf (fun M8 hg7 hf => ?_)
      refine mt_gov (mt_runV (i := 147) (As := []) (rest := []) ⟨hx, hb, hml, hown, hts⟩ hI hH (c_X12_thinks l E M u _ hg7) (cwV 0 hts gX12_turns_X12_thinks rfl rfl rfl (by decide +kernel) ⟨Nat.le_of_ble_eq_true rfl, Nat.le_of_ble_eq_true rfl⟩) mt_T147 rfl rfl hl.1 rfl (Nat.le_of_ble_eq_true rfl) dX12_turns_35 ⟨Nat.zero_le _, Nat.zero_le _⟩) hS (fun H locs hH hS => ?_)
      refine lv_aload_n hx hb dX12_turns_38 rfl (lv_at hl 0 rfl) ?_
      refine mt_getr (C := RX12) (T := TX12) (N := 29) hx hb hts hinX12 hown hI hH mt_T147 rfl 7 (by decide) kw0 rfl rfl dX12_turns_39 ?_
      refine lv_iconst (v := 0) hx hb dX12_turns_42 (by decide) ?_
      refine mt_iald hx hb hI hH mt_T155 (mt_vl (by decide)) dX12_turns_43 ?_
      refine mt_lti hf (fun x9 ex9 hf => ?_)
      refine lv_istore (lv' := [(4, .int x9), (0, .ref (E.2.1 147)), (1, .int a1), (2, .int a2), (3, .int x3)]) hx hb dX12_turns_44 hl (by decide) rfl (fun ls hl => ?_)
      refine lv_aload_n hx hb dX12_turns_46 rfl (lv_at hl 1 rfl) ?_
      refine mt_getr (C := RX12) (T := TX12) (N := 29) hx hb hts hinX12 hown hI hH mt_T147 rfl 7 (by decide) kw0 rfl rfl dX12_turns_47 ?_
      refine lv_iconst (v := 1) hx hb dX12_turns_50 (by decide) ?_
      refine mt_iald hx hb hI hH mt_T155 (mt_vl (by decide)) dX12_turns_51 ?_
      refine mt_lti hf (fun x10 ex10 hf => ?_)
      refine lv_istore (lv' := [(5, .int x10), (4, .int x9), (0, .ref (E.2.1 147)), (1, .int a1), (2, .int a2), (3, .int x3)]) hx hb dX12_turns_52 hl (by decide) rfl (fun ls hl => ?_)
      refine lv_iconst (v := 0) hx hb dX12_turns_54 (by decide) ?_
      refine lv_istore (lv' := [(6, .int (0 : Int32)), (5, .int x10), (4, .int x9), (0, .ref (E.2.1 147)), (1, .int a1), (2, .int a2), (3, .int x3)]) hx hb dX12_turns_55 hl (by decide) rfl (fun ls hl => ?_)
      refine lv_iconst (v := 0) hx hb dX12_turns_57 (by decide) ?_
      refine lv_istore (lv' := [(7, .int (0 : Int32)), (6, .int (0 : Int32)), (5, .int x10), (4, .int x9), (0, .ref (E.2.1 147)), (1, .int a1), (2, .int a2), (3, .int x3)]) hx hb dX12_turns_58 hl (by decide) rfl (fun ls hl => ?_)
      refine mt_lpI3 hf (fun (x11 : Int32) (x12 : Int32) (M13 : mt_M) => ∀ (H : Heap) (locs : List Loc) (ls : Array Slot), mt_H E M13 u H → va_S (mt_A E) s.heap H locs → lv_has ls 10 [(0, .ref (E.2.1 147)), (1, .int a1), (2, .int a2), (4, .int x9), (5, .int x10), (6, .int x11), (7, .int x12)] → W p l e (headSpec wsX12_turns ({ frames := 3, cells := 0, slots := 0, locals := 67 } : Room)).room s mid (([.ref (E.2.1 147), .int a1, .int a2] : List Value).toArray) below meth c0 H locs 0 0 (MQ below (mt_Qi E r M' u) (([.ref (E.2.1 147), .int a1, .int a2] : List Value).toArray) s 0 0 (mt_A E)) (F0 mid 60 ls [])) ?_ _ _ _ hH hS (lv_sub hl [4, 5, 6, 3, 2, 1, 0] rfl)
      intro k14 ih15 x11 x12 M13 hf H locs ls hH hS hl
      refine lv_iload hx hb dX12_turns_60 (lv_at hl 6 rfl) ?_
      refine lv_iload_n hx hb dX12_turns_62 rfl (lv_at hl 1 rfl) ?_
      refine lv_icmp_ge (tgt := 167) hx hb dX12_turns_63 (by decide) (fun c16 => ?_) (fun c16 => ?_)
      · have hf := mt_ifT c16 hf
        refine lv_iconst (v := 3) hx hb dX12_turns_167 (by decide) ?_
        refine lv_iload hx hb dX12_turns_168 (lv_at hl 5 rfl) ?_
        refine lv_imul hx hb dX12_turns_170 ?_
        refine lv_aload_n hx hb dX12_turns_171 rfl (lv_at hl 0 rfl) ?_
        refine mt_getr (C := RX12) (T := TX12) (N := 29) hx hb hts hinX12 hown hI hH mt_T147 rfl 7 (by decide) kw0 rfl rfl dX12_turns_172 ?_
        refine lv_iconst (v := 0) hx hb dX12_turns_175 (by decide) ?_
        refine mt_iald hx hb hI hH mt_T155 (mt_vl (by decide)) dX12_turns_176 ?_
        refine lv_iadd hx hb dX12_turns_177 ?_
        refine lv_iload hx hb dX12_turns_178 (lv_at hl 3 rfl) ?_
        refine lv_isub hx hb dX12_turns_180 ?_
        refine lv_iconst (v := 2) hx hb dX12_turns_181 (by decide) ?_
        refine lv_aload_n hx hb dX12_turns_182 rfl (lv_at hl 0 rfl) ?_
        refine mt_getr (C := RX12) (T := TX12) (N := 29) hx hb hts hinX12 hown hI hH mt_T147 rfl 7 (by decide) kw0 rfl rfl dX12_turns_183 ?_
        refine lv_iconst (v := 1) hx hb dX12_turns_186 (by decide) ?_
        refine mt_iald hx hb hI hH mt_T155 (mt_vl (by decide)) dX12_turns_187 ?_
        refine lv_iload hx hb dX12_turns_188 (lv_at hl 4 rfl) ?_
        refine lv_isub hx hb dX12_turns_190 ?_
        refine lv_imul hx hb dX12_turns_191 ?_
        refine lv_iadd hx hb dX12_turns_192 ?_
        refine mt_lti hf (fun x17 ex17 hf => ?_)
        refine lv_istore (lv' := [(7, .int x17), (0, .ref (E.2.1 147)), (1, .int a1), (2, .int a2), (4, .int x9), (5, .int x10), (6, .int x11)]) hx hb dX12_turns_193 hl (by decide) rfl (fun ls hl => ?_)
        refine lv_aload_n hx hb dX12_turns_195 rfl (lv_at hl 1 rfl) ?_
        refine mt_b1I hf (fun M19 hg18 hf => ?_)
        refine mt_gov (mt_runV (i := 147) (As := []) (rest := []) ⟨hx, hb, hml, hown, hts⟩ hI hH (c_X12_forgets l E M13 u _ hg18) (cwV 0 hts gX12_turns_X12_forgets rfl rfl rfl (by decide +kernel) ⟨Nat.le_of_ble_eq_true rfl, Nat.le_of_ble_eq_true rfl⟩) mt_T147 rfl rfl hl.1 rfl (Nat.le_of_ble_eq_true rfl) dX12_turns_196 ⟨Nat.zero_le _, Nat.zero_le _⟩) hS (fun H locs hH hS => ?_)
        refine lv_iload hx hb dX12_turns_199 (lv_at hl 0 rfl) ?_
        obtain ⟨i1, i2⟩ := mt_so2 hf
        subst i1
        subst i2
        exact mt_iret hx hb hr hI hH hS hlocks dX12_turns_201
      · have hf := mt_ifF c16 hf
        refine lv_iload_n hx hb dX12_turns_66 rfl (lv_at hl 2 rfl) ?_
        refine mt_jn1 hf (fun (v20 : Int32) => ∀ (H : Heap) (locs : List Loc) (ls : Array Slot), mt_H E M13 u H → va_S (mt_A E) s.heap H locs → lv_has ls 10 [(0, .ref (E.2.1 147)), (1, .int a1), (2, .int a2), (4, .int x9), (5, .int x10), (6, .int x11), (7, .int x12)] → W p l e (headSpec wsX12_turns ({ frames := 3, cells := 0, slots := 0, locals := 67 } : Room)).room s mid (([.ref (E.2.1 147), .int a1, .int a2] : List Value).toArray) below meth c0 H locs 0 0 (MQ below (mt_Qi E r M' u) (([.ref (E.2.1 147), .int a1, .int a2] : List Value).toArray) s 0 0 (mt_A E)) (F0 mid 91 ls [.int v20])) ?_ ?_
        · intro v20 hf H locs ls hH hS hl
          refine lv_istore (lv' := [(8, .int v20), (0, .ref (E.2.1 147)), (1, .int a1), (2, .int a2), (4, .int x9), (5, .int x10), (6, .int x11), (7, .int x12)]) hx hb dX12_turns_91 hl (by decide) rfl (fun ls hl => ?_)
          refine lv_iload hx hb dX12_turns_93 (lv_at hl 6 rfl) ?_
          refine lv_iload hx hb dX12_turns_95 (lv_at hl 0 rfl) ?_
          refine mt_jn1 hf (fun (v23 : Int32) => ∀ (H : Heap) (locs : List Loc) (ls : Array Slot), mt_H E M13 u H → va_S (mt_A E) s.heap H locs → lv_has ls 10 [(0, .ref (E.2.1 147)), (1, .int a1), (2, .int a2), (4, .int x9), (5, .int x10), (7, .int x12), (8, .int v20)] → W p l e (headSpec wsX12_turns ({ frames := 3, cells := 0, slots := 0, locals := 67 } : Room)).room s mid (([.ref (E.2.1 147), .int a1, .int a2] : List Value).toArray) below meth c0 H locs 0 0 (MQ below (mt_Qi E r M' u) (([.ref (E.2.1 147), .int a1, .int a2] : List Value).toArray) s 0 0 (mt_A E)) (F0 mid 105 ls [.int v23, .int x11])) ?_ ?_
          · intro v23 hf H locs ls hH hS hl
            refine lv_iadd hx hb dX12_turns_105 ?_
            refine mt_lti hf (fun x26 ex26 hf => ?_)
            refine lv_istore (lv' := [(6, .int x26), (0, .ref (E.2.1 147)), (1, .int a1), (2, .int a2), (4, .int x9), (5, .int x10), (7, .int x12), (8, .int v20)]) hx hb dX12_turns_106 hl (by decide) rfl (fun ls hl => ?_)
            refine lv_iconst (v := 0) hx hb dX12_turns_108 (by decide) ?_
            refine lv_istore (lv' := [(9, .int (0 : Int32)), (6, .int x26), (0, .ref (E.2.1 147)), (1, .int a1), (2, .int a2), (4, .int x9), (5, .int x10), (7, .int x12), (8, .int v20)]) hx hb dX12_turns_109 hl (by decide) rfl (fun ls hl => ?_)
            refine mt_lpI2 hf (fun (x27 : Int32) (M28 : mt_M) => ∀ (H : Heap) (locs : List Loc) (ls : Array Slot), mt_H E M28 u H → va_S (mt_A E) s.heap H locs → lv_has ls 10 [(0, .ref (E.2.1 147)), (1, .int a1), (2, .int a2), (4, .int x9), (5, .int x10), (6, .int x26), (7, .int x12), (8, .int v20), (9, .int x27)] → W p l e (headSpec wsX12_turns ({ frames := 3, cells := 0, slots := 0, locals := 67 } : Room)).room s mid (([.ref (E.2.1 147), .int a1, .int a2] : List Value).toArray) below meth c0 H locs 0 0 (MQ below (mt_Qi E r M' u) (([.ref (E.2.1 147), .int a1, .int a2] : List Value).toArray) s 0 0 (mt_A E)) (F0 mid 111 ls [])) ?_ _ _ _ hH hS (lv_sub hl [2, 3, 4, 5, 6, 1, 7, 8, 0] rfl)
            intro k29 ih30 x27 M28 hf H locs ls hH hS hl
            refine lv_iload hx hb dX12_turns_111 (lv_at hl 8 rfl) ?_
            refine lv_aload_n hx hb dX12_turns_113 rfl (lv_at hl 0 rfl) ?_
            refine mt_geti (C := RX12) (T := TX12) (N := 29) hx hb hts hinX12 hown hI hH mt_T147 rfl 8 (by decide) kw1 rfl rfl dX12_turns_114 ?_
            refine mt_jn0 hf (∀ (H : Heap) (locs : List Loc) (ls : Array Slot), mt_H E M28 u H → va_S (mt_A E) s.heap H locs → lv_has ls 10 [(0, .ref (E.2.1 147)), (1, .int a1), (2, .int a2), (4, .int x9), (5, .int x10), (6, .int x26), (7, .int x12)] → W p l e (headSpec wsX12_turns ({ frames := 3, cells := 0, slots := 0, locals := 67 } : Room)).room s mid (([.ref (E.2.1 147), .int a1, .int a2] : List Value).toArray) below meth c0 H locs 0 0 (MQ below (mt_Qi E r M' u) (([.ref (E.2.1 147), .int a1, .int a2] : List Value).toArray) s 0 0 (mt_A E)) (F0 mid 156 ls [])) ?_ ?_
            · intro hf H locs ls hH hS hl
              refine lv_aload_n hx hb dX12_turns_156 rfl (lv_at hl 0 rfl) ?_
              refine mt_b2I hf (fun r34 M35 hg33 hf => ?_)
              refine mt_goi (mt_runV (i := 147) (As := []) (rest := []) ⟨hx, hb, hml, hown, hts⟩ hI hH (c_X12_goesDay l E M28 u _ _ hg33) (cwV 0 hts gX12_turns_X12_goesDay rfl rfl rfl (by decide +kernel) ⟨Nat.le_of_ble_eq_true rfl, Nat.le_of_ble_eq_true rfl⟩) mt_T147 rfl rfl hl.1 rfl (Nat.le_of_ble_eq_true rfl) dX12_turns_157 ⟨Nat.zero_le _, Nat.zero_le _⟩) hS (fun H locs hH hS => ?_)
              refine lv_pop hx hb dX12_turns_160 rfl ?_
              refine mt_ltI hf (fun x36 ex36 hf => ?_)
              refine lv_iinc (v := x36) (lv' := [(7, .int x36), (0, .ref (E.2.1 147)), (1, .int a1), (2, .int a2), (4, .int x9), (5, .int x10), (6, .int x26)]) hx hb dX12_turns_161 hl (k := 6) rfl (by rw [ex36]; rfl) (by decide) rfl (fun ls hl => ?_)
              refine lv_goto (tgt := 60) hx hb dX12_turns_164 (by decide) ?_
              exact ih15 x26 x36 M35 hf _ _ _ hH hS (lv_sub hl [1, 2, 3, 4, 5, 6, 0] rfl)
            · intro j31 hj32 hf
              refine lv_icmp_ge (tgt := 156) hx hb dX12_turns_117 (by decide) (fun c37 => ?_) (fun c37 => ?_)
              · have hf := mt_ifT c37 hf
                exact hj32 hf _ _ _ hH hS (lv_sub hl [0, 1, 2, 3, 4, 5, 6] rfl)
              · have hf := mt_ifF c37 hf
                refine lv_iload hx hb dX12_turns_120 (lv_at hl 7 rfl) ?_
                refine lv_if_eq (tgt := 156) hx hb dX12_turns_122 (by decide) (fun c38 => ?_) (fun c38 => ?_)
                · have hf := mt_ifT c38 hf
                  exact hj32 hf _ _ _ hH hS (lv_sub hl [0, 1, 2, 3, 4, 5, 6] rfl)
                · have hf := mt_ifF c38 hf
                  refine lv_aload_n hx hb dX12_turns_125 rfl (lv_at hl 0 rfl) ?_
                  refine mt_getr (C := RX12) (T := TX12) (N := 29) hx hb hts hinX12 hown hI hH mt_T147 rfl 4 (by decide) kw2 rfl rfl dX12_turns_126 ?_
                  refine lv_iload hx hb dX12_turns_129 (lv_at hl 8 rfl) ?_
                  refine mt_ciI hf (fun q39 hf => ?_)
                  refine mt_iald hx hb hI hH mt_T152 q39 dX12_turns_131 ?_
                  refine lv_iconst (v := 2) hx hb dX12_turns_132 (by decide) ?_
                  refine lv_aload_n hx hb dX12_turns_133 rfl (lv_at hl 0 rfl) ?_
                  refine mt_getr (C := RX12) (T := TX12) (N := 29) hx hb hts hinX12 hown hI hH mt_T147 rfl 3 (by decide) kw3 rfl rfl dX12_turns_134 ?_
                  refine lv_iload hx hb dX12_turns_137 (lv_at hl 8 rfl) ?_
                  refine mt_ciI hf (fun q40 hf => ?_)
                  refine mt_iald hx hb hI hH mt_T151 q40 dX12_turns_139 ?_
                  refine lv_imul hx hb dX12_turns_140 ?_
                  refine mt_jn1 hf (fun (M41 : mt_M) => ∀ (H : Heap) (locs : List Loc) (ls : Array Slot), mt_H E M41 u H → va_S (mt_A E) s.heap H locs → lv_has ls 10 [(0, .ref (E.2.1 147)), (1, .int a1), (2, .int a2), (4, .int x9), (5, .int x10), (6, .int x26), (7, .int x12), (8, .int v20), (9, .int x27)] → W p l e (headSpec wsX12_turns ({ frames := 3, cells := 0, slots := 0, locals := 67 } : Room)).room s mid (([.ref (E.2.1 147), .int a1, .int a2] : List Value).toArray) below meth c0 H locs 0 0 (MQ below (mt_Qi E r M' u) (([.ref (E.2.1 147), .int a1, .int a2] : List Value).toArray) s 0 0 (mt_A E)) (F0 mid 150 ls [])) ?_ ?_
                  · intro M41 hf H locs ls hH hS hl
                    refine mt_ltI hf (fun x44 ex44 hf => ?_)
                    refine lv_iinc (v := x44) (lv' := [(9, .int x44), (0, .ref (E.2.1 147)), (1, .int a1), (2, .int a2), (4, .int x9), (5, .int x10), (6, .int x26), (7, .int x12), (8, .int v20)]) hx hb dX12_turns_150 hl (k := 8) rfl (by rw [ex44]; rfl) (by decide) rfl (fun ls hl => ?_)
                    refine lv_goto (tgt := 111) hx hb dX12_turns_153 (by decide) ?_
                    exact ih30 x44 M41 hf _ _ _ hH hS (lv_sub hl [1, 2, 3, 4, 5, 6, 7, 8, 0] rfl)
                  · intro j42 hj43 hf
                    refine lv_icmp_ge (tgt := 150) hx hb dX12_turns_141 (by decide) (fun c45 => ?_) (fun c45 => ?_)
                    · have hf := mt_ifT c45 hf
                      exact hj43 M28 hf _ _ _ hH hS (lv_sub hl [0, 1, 2, 3, 4, 5, 6, 7, 8] rfl)
                    · have hf := mt_ifF c45 hf
                      refine lv_aload_n hx hb dX12_turns_144 rfl (lv_at hl 0 rfl) ?_
                      refine lv_iload hx hb dX12_turns_145 (lv_at hl 8 rfl) ?_
                      refine mt_b1I hf (fun M47 hg46 hf => ?_)
                      refine mt_gov (mt_runV (i := 147) (As := [.int x27]) (rest := []) ⟨hx, hb, hml, hown, hts⟩ hI hH (c_X12_gets l E x27 M28 u _ hg46) (cwV 1 hts gX12_turns_X12_gets rfl rfl rfl (by decide +kernel) ⟨Nat.le_of_ble_eq_true rfl, Nat.le_of_ble_eq_true rfl⟩) mt_T147 rfl rfl hl.1 rfl (Nat.le_of_ble_eq_true rfl) dX12_turns_147 ⟨Nat.zero_le _, Nat.zero_le _⟩) hS (fun H locs hH hS => ?_)
                      exact hj43 M47 hf _ _ _ hH hS (lv_sub hl [0, 1, 2, 3, 4, 5, 6, 7, 8] rfl)
          · intro j24 hj25 hf
            refine lv_if_eq (tgt := 104) hx hb dX12_turns_97 (by decide) (fun c48 => ?_) (fun c48 => ?_)
            · have hf := mt_ifT c48 hf
              refine lv_iconst (v := 0) hx hb dX12_turns_104 (by decide) ?_
              exact hj25 (0 : Int32) hf _ _ _ hH hS (lv_sub hl [1, 2, 3, 4, 5, 7, 0] rfl)
            · have hf := mt_ifF c48 hf
              refine lv_iconst (v := 1) hx hb dX12_turns_100 (by decide) ?_
              refine lv_goto (tgt := 105) hx hb dX12_turns_101 (by decide) ?_
              exact hj25 (1 : Int32) hf _ _ _ hH hS (lv_sub hl [1, 2, 3, 4, 5, 7, 0] rfl)
        · intro j21 hj22 hf
          refine lv_if_ne (tgt := 87) hx hb dX12_turns_67 (by decide) (fun c49 => ?_) (fun c49 => ?_)
          · have hf := mt_ifF c49 hf
            refine lv_aload_n hx hb dX12_turns_87 rfl (lv_at hl 0 rfl) ?_
            refine mt_b1I hf (fun r51 hg50 hf => ?_)
            refine mt_goi (mt_runV (i := 147) (As := []) (rest := []) ⟨hx, hb, hml, hown, hts⟩ hI hH (c_X12_isShort l E M13 u _ hg50) (cwV 0 hts gX12_turns_X12_isShort rfl rfl rfl (by decide +kernel) ⟨Nat.le_of_ble_eq_true rfl, Nat.le_of_ble_eq_true rfl⟩) mt_T147 rfl rfl hl.1 rfl (Nat.le_of_ble_eq_true rfl) dX12_turns_88 ⟨Nat.zero_le _, Nat.zero_le _⟩) hS (fun H locs hH hS => ?_)
            exact hj22 r51 hf _ _ _ hH hS (lv_sub hl [0, 1, 2, 3, 4, 5, 6] rfl)
          · have hf := mt_ifT c49 hf
            refine lv_aload_n hx hb dX12_turns_70 rfl (lv_at hl 0 rfl) ?_
            refine mt_geti (C := RX12) (T := TX12) (N := 29) hx hb hts hinX12 hown hI hH mt_T147 rfl 10 (by decide) kw4 rfl rfl dX12_turns_71 ?_
            refine lv_iconst (v := 2) hx hb dX12_turns_74 (by decide) ?_
            refine lv_irem hx hb dX12_turns_75 (by decide) ?_
            refine lv_if_ne (tgt := 83) hx hb dX12_turns_76 (by decide) (fun c52 => ?_) (fun c52 => ?_)
            · have hf := mt_ifF c52 hf
              refine lv_iconst (v := 0) hx hb dX12_turns_83 (by decide) ?_
              refine lv_goto (tgt := 91) hx hb dX12_turns_84 (by decide) ?_
              exact hj22 (0 : Int32) hf _ _ _ hH hS (lv_sub hl [0, 1, 2, 3, 4, 5, 6] rfl)
            · have hf := mt_ifT c52 hf
              refine lv_iconst (v := 1) hx hb dX12_turns_79 (by decide) ?_
              refine lv_goto (tgt := 91) hx hb dX12_turns_80 (by decide) ?_
              exact hj22 (1 : Int32) hf _ _ _ hH hS (lv_sub hl [0, 1, 2, 3, 4, 5, 6] rfl)
    · have hf := mt_ifF c6 hf
      refine lv_aload_n hx hb dX12_turns_28 rfl (lv_at hl 0 rfl) ?_
      refine lv_iload_n hx hb dX12_turns_29 rfl (lv_at hl 3 rfl) ?_
      refine mt_b2I hf (fun r54 M55 hg53 hf => ?_)
      refine mt_goi (mt_runV (i := 147) (As := [.int x3]) (rest := []) ⟨hx, hb, hml, hown, hts⟩ hI hH (c_X12_no l E x3 M u _ _ hg53) (cwV 1 hts gX12_turns_X12_no rfl rfl rfl (by decide +kernel) ⟨Nat.le_of_ble_eq_true rfl, Nat.le_of_ble_eq_true rfl⟩) mt_T147 rfl rfl hl.1 rfl (Nat.le_of_ble_eq_true rfl) dX12_turns_30 ⟨Nat.zero_le _, Nat.zero_le _⟩) hS (fun H locs hH hS => ?_)
      obtain ⟨i1, i2⟩ := mt_so2 hf
      subst i1
      subst i2
      exact mt_iret hx hb hr hI hH hS hlocks dX12_turns_33
  · intro j4 hj5 hf
    refine lv_if_ne (tgt := 24) hx hb dX12_turns_9 (by decide) (fun c56 => ?_) (fun c56 => ?_)
    · have hf := mt_ifF c56 hf
      exact hj5 r2 hf _ _ _ hH hS (lv_sub hl [1, 2, 3, 0] rfl)
    · have hf := mt_ifT c56 hf
      refine lv_iload_n hx hb dX12_turns_12 rfl (lv_at hl 3 rfl) ?_
      refine lv_iconst (v := 0) hx hb dX12_turns_13 (by decide) ?_
      refine lv_iconst (v := 1) hx hb dX12_turns_14 (by decide) ?_
      refine mt_b1I hf (fun r58 hg57 hf => ?_)
      refine mt_goi (mt_runS (As := [.int a2, .int (0 : Int32), .int (1 : Int32)]) (rest := []) ⟨hx, hb, hml, hown, hts⟩ hI hH (c_X12_isIn l E a2 (0 : Int32) (1 : Int32) M u _ hg57) (va_cwS 3 hts gX12_turns_X12_isIn rfl rfl rfl (by decide +kernel) ⟨Nat.le_of_ble_eq_true rfl, Nat.le_of_ble_eq_true rfl⟩) rfl hl.1 rfl (Nat.le_of_ble_eq_true rfl) dX12_turns_15 ⟨Nat.zero_le _, Nat.zero_le _⟩) hS (fun H locs hH hS => ?_)
      refine lv_if_ne (tgt := 24) hx hb dX12_turns_18 (by decide) (fun c59 => ?_) (fun c59 => ?_)
      · have hf := mt_ifF c59 hf
        exact hj5 r2 hf _ _ _ hH hS (lv_sub hl [1, 2, 3, 0] rfl)
      · have hf := mt_ifT c59 hf
        refine lv_bipush (v := (-2)) hx hb dX12_turns_21 (by decide) ?_
        refine lv_istore_n (lv' := [(3, .int (-2 : Int32)), (0, .ref (E.2.1 147)), (1, .int a1), (2, .int a2)]) hx hb dX12_turns_23 rfl hl (by decide) rfl (fun ls hl => ?_)
        exact hj5 (-2 : Int32) hf _ _ _ hH hS (lv_sub hl [1, 2, 3, 0] rfl)
set_option maxHeartbeats 4000000 in
set_option maxRecDepth 100000 in
theorem c_X12_paper (l : Launch) (E : mt_E) (a1 : Int32) (M : mt_M) (u : mt_U) (r : Int32) (M' : mt_M) (hf : f_X12_paper a1 M = some (r, M')) : Met l yX12_paper wsX12_paper ({ frames := 1, cells := 0, slots := 0, locals := 23 } : Room) (mt_P E [.ref (E.2.1 147), .int a1] M u) (mt_Qi E r M' u) 0 0 (mt_A E) := by
  refine Met.ofW (cc := cX12_paper) (maxL := 3) (ret := (some .int)) (by decide) rfl ?_
  intro p e s mid args below meth c0 s₁ B hml hv
  obtain ⟨rfl, hI, hH⟩ := hv
  have hx := B.exec
  have hb := B.bytes
  have hr := B.returns
  have hts := atoms_spec (ws := wsX12_paper) B.pre
  have hown : s.vm.findClass RX12 = some mid.cls := findClass_of_methodNamed B.named
  have hlocks := B.notSynchronized
  have hS : va_S (mt_A E) s.heap s.heap [] := va_S.rf
  have hl := lv_entry ([.ref (E.2.1 147), .int a1]) (n := 3) (Nat.le_of_ble_eq_true rfl)
  rw [lg_entry_eq]
  generalize (lg_sl ([.ref (E.2.1 147), .int a1]) ++ List.replicate (3 - (lg_sl ([.ref (E.2.1 147), .int a1])).length) Slot.unset).toArray = ls at hl ⊢
  have hl : lv_has ls 3 [(0, .ref (E.2.1 147)), (1, .int a1)] := hl
  unfold f_X12_paper at hf
  have kw0 := hts (.fieldLink RX12 59 "MilkTwiceModel" "things" "I") (List.mem_of_getElem? (i := 1) rfl)
  have hinX12 : ∀ w ∈ u_ws RX12 TX12 29, w ∈ wsX12_paper := fun w h => List.mem_cons_of_mem _ (List.mem_append_right _ h)
  refine lv_iload_n hx hb dX12_paper_0 rfl (lv_at hl 1 rfl) ?_
  refine lv_iconst (v := 0) hx hb dX12_paper_1 (by decide) ?_
  refine lv_bipush (v := 127) hx hb dX12_paper_2 (by decide) ?_
  refine mt_b1I hf (fun r2 hg1 hf => ?_)
  refine mt_goi (mt_runS (As := [.int a1, .int (0 : Int32), .int (127 : Int32)]) (rest := []) ⟨hx, hb, hml, hown, hts⟩ hI hH (c_X12_bound l E a1 (0 : Int32) (127 : Int32) M u _ hg1) (va_cwS 3 hts gX12_paper_X12_bound rfl rfl rfl (by decide +kernel) ⟨Nat.le_of_ble_eq_true rfl, Nat.le_of_ble_eq_true rfl⟩) rfl hl.1 rfl (Nat.le_of_ble_eq_true rfl) dX12_paper_4 ⟨Nat.zero_le _, Nat.zero_le _⟩) hS (fun H locs hH hS => ?_)
  refine lv_istore_n (lv' := [(2, .int r2), (0, .ref (E.2.1 147)), (1, .int a1)]) hx hb dX12_paper_7 rfl hl (by decide) rfl (fun ls hl => ?_)
  refine lv_iload_n hx hb dX12_paper_8 rfl (lv_at hl 0 rfl) ?_
  refine lv_if_eq (tgt := 20) hx hb dX12_paper_9 (by decide) (fun c3 => ?_) (fun c3 => ?_)
  · have hf := mt_ifT c3 hf
    refine lv_iload_n hx hb dX12_paper_20 rfl (lv_at hl 2 rfl) ?_
    refine lv_iconst (v := 1) hx hb dX12_paper_21 (by decide) ?_
    refine lv_aload_n hx hb dX12_paper_22 rfl (lv_at hl 1 rfl) ?_
    refine mt_geti (C := RX12) (T := TX12) (N := 29) hx hb hts hinX12 hown hI hH mt_T147 rfl 8 (by decide) kw0 rfl rfl dX12_paper_23 ?_
    refine lv_ishl hx hb dX12_paper_26 ?_
    refine lv_iconst (v := 1) hx hb dX12_paper_27 (by decide) ?_
    refine lv_isub hx hb dX12_paper_28 ?_
    refine lv_iand hx hb dX12_paper_29 ?_
    refine lv_aload_n hx hb dX12_paper_30 rfl (lv_at hl 1 rfl) ?_
    refine lv_iconst (v := 0) hx hb dX12_paper_31 (by decide) ?_
    refine mt_b1I hf (fun r5 hg4 hf => ?_)
    refine mt_goi (mt_runV (i := 147) (As := [.int (0 : Int32)]) (rest := [.int (a1 &&& (((1 : Int32) <<< ((M 147 8) &&& 31)) - (1 : Int32)))]) ⟨hx, hb, hml, hown, hts⟩ hI hH (c_X12_wants l E (0 : Int32) M u _ hg4) (cwV 1 hts gX12_paper_X12_wants rfl rfl rfl (by decide +kernel) ⟨Nat.le_of_ble_eq_true rfl, Nat.le_of_ble_eq_true rfl⟩) mt_T147 rfl rfl hl.1 rfl (Nat.le_of_ble_eq_true rfl) dX12_paper_32 ⟨Nat.zero_le _, Nat.zero_le _⟩) hS (fun H locs hH hS => ?_)
    refine lv_iconst (v := (-1)) hx hb dX12_paper_35 (by decide) ?_
    refine lv_ixor hx hb dX12_paper_36 ?_
    refine lv_iand hx hb dX12_paper_37 ?_
    refine lv_aload_n hx hb dX12_paper_38 rfl (lv_at hl 1 rfl) ?_
    refine lv_iconst (v := 1) hx hb dX12_paper_39 (by decide) ?_
    refine mt_b1I hf (fun r7 hg6 hf => ?_)
    refine mt_goi (mt_runV (i := 147) (As := [.int (1 : Int32)]) (rest := [.int ((a1 &&& (((1 : Int32) <<< ((M 147 8) &&& 31)) - (1 : Int32))) &&& (r5 ^^^ (-1 : Int32)))]) ⟨hx, hb, hml, hown, hts⟩ hI hH (c_X12_wants l E (1 : Int32) M u _ hg6) (cwV 1 hts gX12_paper_X12_wants rfl rfl rfl (by decide +kernel) ⟨Nat.le_of_ble_eq_true rfl, Nat.le_of_ble_eq_true rfl⟩) mt_T147 rfl rfl hl.1 rfl (Nat.le_of_ble_eq_true rfl) dX12_paper_40 ⟨Nat.zero_le _, Nat.zero_le _⟩) hS (fun H locs hH hS => ?_)
    refine lv_iconst (v := (-1)) hx hb dX12_paper_43 (by decide) ?_
    refine lv_ixor hx hb dX12_paper_44 ?_
    refine lv_iand hx hb dX12_paper_45 ?_
    obtain ⟨i1, i2⟩ := mt_so2 hf
    subst i1
    subst i2
    exact mt_iret hx hb hr hI hH hS hlocks dX12_paper_46
  · have hf := mt_ifF c3 hf
    refine lv_aload_n hx hb dX12_paper_12 rfl (lv_at hl 1 rfl) ?_
    refine lv_iload_n hx hb dX12_paper_13 rfl (lv_at hl 0 rfl) ?_
    refine mt_b2I hf (fun r9 M10 hg8 hf => ?_)
    refine mt_goi (mt_runV (i := 147) (As := [.int r2]) (rest := []) ⟨hx, hb, hml, hown, hts⟩ hI hH (c_X12_no l E r2 M u _ _ hg8) (cwV 1 hts gX12_paper_X12_no rfl rfl rfl (by decide +kernel) ⟨Nat.le_of_ble_eq_true rfl, Nat.le_of_ble_eq_true rfl⟩) mt_T147 rfl rfl hl.1 rfl (Nat.le_of_ble_eq_true rfl) dX12_paper_14 ⟨Nat.zero_le _, Nat.zero_le _⟩) hS (fun H locs hH hS => ?_)
    refine lv_goto (tgt := 46) hx hb dX12_paper_17 (by decide) ?_
    obtain ⟨i1, i2⟩ := mt_so2 hf
    subst i1
    subst i2
    exact mt_iret hx hb hr hI hH hS hlocks dX12_paper_46
set_option maxHeartbeats 4000000 in
set_option maxRecDepth 100000 in
theorem c_X12_areGoings (l : Launch) (E : mt_E)  (M : mt_M) (u : mt_U) (r : Int32) (hf : f_X12_areGoings M = some (r)) : Met l yX12_areGoings wsX12_areGoings ({ frames := 2, cells := 0, slots := 0, locals := 43 } : Room) (mt_P E [.ref (E.2.1 147)] M u) (mt_Qi E r M u) 0 0 (mt_A E) := by
  refine Met.ofW (cc := cX12_areGoings) (maxL := 2) (ret := (some .boolean)) (by decide) rfl ?_
  intro p e s mid args below meth c0 s₁ B hml hv
  obtain ⟨rfl, hI, hH⟩ := hv
  have hx := B.exec
  have hb := B.bytes
  have hr := B.returns
  have hts := atoms_spec (ws := wsX12_areGoings) B.pre
  have hown : s.vm.findClass RX12 = some mid.cls := findClass_of_methodNamed B.named
  have hlocks := B.notSynchronized
  have hS : va_S (mt_A E) s.heap s.heap [] := va_S.rf
  have hl := lv_entry ([.ref (E.2.1 147)]) (n := 2) (Nat.le_of_ble_eq_true rfl)
  rw [lg_entry_eq]
  generalize (lg_sl ([.ref (E.2.1 147)]) ++ List.replicate (2 - (lg_sl ([.ref (E.2.1 147)])).length) Slot.unset).toArray = ls at hl ⊢
  have hl : lv_has ls 2 [(0, .ref (E.2.1 147))] := hl
  unfold f_X12_areGoings at hf
  have kw0 := hts (.fieldLink RX12 285 "MilkTwiceModel" "rowMany" "I") (List.mem_of_getElem? (i := 1) rfl)
  have kw1 := hts (.fieldLink RX12 53 "MilkTwiceModel" "row" "[I") (List.mem_of_getElem? (i := 2) rfl)
  have hinX12 : ∀ w ∈ u_ws RX12 TX12 29, w ∈ wsX12_areGoings := fun w h => List.mem_cons_of_mem _ (List.mem_append_right _ h)
  refine lv_iconst (v := 0) hx hb dX12_areGoings_0 (by decide) ?_
  refine lv_istore_n (lv' := [(1, .int (0 : Int32)), (0, .ref (E.2.1 147))]) hx hb dX12_areGoings_1 rfl hl (by decide) rfl (fun ls hl => ?_)
  refine mt_lpI1 hf (fun (x1 : Int32) => ∀ (H : Heap) (locs : List Loc) (ls : Array Slot), mt_H E M u H → va_S (mt_A E) s.heap H locs → lv_has ls 2 [(0, .ref (E.2.1 147)), (1, .int x1)] → W p l e (headSpec wsX12_areGoings ({ frames := 2, cells := 0, slots := 0, locals := 43 } : Room)).room s mid (([.ref (E.2.1 147)] : List Value).toArray) below meth c0 H locs 0 0 (MQ below (mt_Qi E r M u) (([.ref (E.2.1 147)] : List Value).toArray) s 0 0 (mt_A E)) (F0 mid 2 ls [])) ?_ _ _ _ hH hS (lv_sub hl [1, 0] rfl)
  intro k2 ih3 x1 hf H locs ls hH hS hl
  refine lv_iload_n hx hb dX12_areGoings_2 rfl (lv_at hl 1 rfl) ?_
  refine lv_aload_n hx hb dX12_areGoings_3 rfl (lv_at hl 0 rfl) ?_
  refine mt_geti (C := RX12) (T := TX12) (N := 29) hx hb hts hinX12 hown hI hH mt_T147 rfl 27 (by decide) kw0 rfl rfl dX12_areGoings_4 ?_
  refine lv_icmp_ge (tgt := 43) hx hb dX12_areGoings_7 (by decide) (fun c4 => ?_) (fun c4 => ?_)
  · have hf := mt_ifT c4 hf
    refine lv_aload_n hx hb dX12_areGoings_43 rfl (lv_at hl 0 rfl) ?_
    refine mt_geti (C := RX12) (T := TX12) (N := 29) hx hb hts hinX12 hown hI hH mt_T147 rfl 27 (by decide) kw0 rfl rfl dX12_areGoings_44 ?_
    refine lv_bipush (v := 6) hx hb dX12_areGoings_47 (by decide) ?_
    refine lv_icmp_gt (tgt := 56) hx hb dX12_areGoings_49 (by decide) (fun c5 => ?_) (fun c5 => ?_)
    · have hf := mt_ifT c5 hf
      refine lv_iconst (v := 0) hx hb dX12_areGoings_56 (by decide) ?_
      have i1 := mt_so1 hf
      subst i1
      exact mt_zret hx hb hr hI hH hS (by decide) hlocks dX12_areGoings_57
    · have hf := mt_ifF c5 hf
      refine lv_iconst (v := 1) hx hb dX12_areGoings_52 (by decide) ?_
      refine lv_goto (tgt := 57) hx hb dX12_areGoings_53 (by decide) ?_
      have i1 := mt_so1 hf
      subst i1
      exact mt_zret hx hb hr hI hH hS (by decide) hlocks dX12_areGoings_57
  · have hf := mt_ifF c4 hf
    refine lv_aload_n hx hb dX12_areGoings_10 rfl (lv_at hl 0 rfl) ?_
    refine lv_aload_n hx hb dX12_areGoings_11 rfl (lv_at hl 0 rfl) ?_
    refine mt_getr (C := RX12) (T := TX12) (N := 29) hx hb hts hinX12 hown hI hH mt_T147 rfl 26 (by decide) kw1 rfl rfl dX12_areGoings_12 ?_
    refine lv_iload_n hx hb dX12_areGoings_15 rfl (lv_at hl 1 rfl) ?_
    refine mt_ciI hf (fun q6 hf => ?_)
    refine mt_iald hx hb hI hH mt_T162 q6 dX12_areGoings_16 ?_
    refine lv_bipush (v := 10) hx hb dX12_areGoings_17 (by decide) ?_
    refine lv_idiv hx hb dX12_areGoings_19 (by decide) ?_
    refine lv_aload_n hx hb dX12_areGoings_20 rfl (lv_at hl 0 rfl) ?_
    refine mt_getr (C := RX12) (T := TX12) (N := 29) hx hb hts hinX12 hown hI hH mt_T147 rfl 26 (by decide) kw1 rfl rfl dX12_areGoings_21 ?_
    refine lv_iload_n hx hb dX12_areGoings_24 rfl (lv_at hl 1 rfl) ?_
    refine mt_ciI hf (fun q7 hf => ?_)
    refine mt_iald hx hb hI hH mt_T162 q7 dX12_areGoings_25 ?_
    refine lv_bipush (v := 10) hx hb dX12_areGoings_26 (by decide) ?_
    refine lv_irem hx hb dX12_areGoings_28 (by decide) ?_
    refine mt_b1I hf (fun r9 hg8 hf => ?_)
    refine mt_goi (mt_runV (i := 147) (As := [.int ((M 162 x1.toNatClampNeg) / (10 : Int32)), .int ((M 162 x1.toNatClampNeg) - (M 162 x1.toNatClampNeg) / (10 : Int32) * (10 : Int32))]) (rest := []) ⟨hx, hb, hml, hown, hts⟩ hI hH (c_X12_isLine l E ((M 162 x1.toNatClampNeg) / (10 : Int32)) ((M 162 x1.toNatClampNeg) - (M 162 x1.toNatClampNeg) / (10 : Int32) * (10 : Int32)) M u _ hg8) (cwV 2 hts gX12_areGoings_X12_isLine rfl rfl rfl (by decide +kernel) ⟨Nat.le_of_ble_eq_true rfl, Nat.le_of_ble_eq_true rfl⟩) mt_T147 rfl rfl hl.1 rfl (Nat.le_of_ble_eq_true rfl) dX12_areGoings_29 ⟨Nat.zero_le _, Nat.zero_le _⟩) hS (fun H locs hH hS => ?_)
    refine lv_if_ne (tgt := 37) hx hb dX12_areGoings_32 (by decide) (fun c10 => ?_) (fun c10 => ?_)
    · have hf := mt_ifF c10 hf
      refine mt_ltI hf (fun x11 ex11 hf => ?_)
      refine lv_iinc (v := x11) (lv' := [(1, .int x11), (0, .ref (E.2.1 147))]) hx hb dX12_areGoings_37 hl (k := 1) rfl (by rw [ex11]; rfl) (by decide) rfl (fun ls hl => ?_)
      refine lv_goto (tgt := 2) hx hb dX12_areGoings_40 (by decide) ?_
      exact ih3 x11 hf _ _ _ hH hS (lv_sub hl [1, 0] rfl)
    · have hf := mt_ifT c10 hf
      refine lv_iconst (v := 0) hx hb dX12_areGoings_35 (by decide) ?_
      have i1 := mt_so1 hf
      subst i1
      exact mt_zret hx hb hr hI hH hS (by decide) hlocks dX12_areGoings_36
set_option maxHeartbeats 4000000 in
set_option maxRecDepth 100000 in
theorem c_X12_boughtBy (l : Launch) (E : mt_E) (a1 : Int32) (M : mt_M) (u : mt_U) (r : Int32) (hf : f_X12_boughtBy a1 M = some (r)) : Met l yX12_boughtBy wsX12_boughtBy ({ frames := 1, cells := 0, slots := 0, locals := 21 } : Room) (mt_P E [.ref (E.2.1 147), .int a1] M u) (mt_Qi E r M u) 0 0 (mt_A E) := by
  refine Met.ofW (cc := cX12_boughtBy) (maxL := 8) (ret := (some .int)) (by decide) rfl ?_
  intro p e s mid args below meth c0 s₁ B hml hv
  obtain ⟨rfl, hI, hH⟩ := hv
  have hx := B.exec
  have hb := B.bytes
  have hr := B.returns
  have hts := atoms_spec (ws := wsX12_boughtBy) B.pre
  have hown : s.vm.findClass RX12 = some mid.cls := findClass_of_methodNamed B.named
  have hlocks := B.notSynchronized
  have hS : va_S (mt_A E) s.heap s.heap [] := va_S.rf
  have hl := lv_entry ([.ref (E.2.1 147), .int a1]) (n := 8) (Nat.le_of_ble_eq_true rfl)
  rw [lg_entry_eq]
  generalize (lg_sl ([.ref (E.2.1 147), .int a1]) ++ List.replicate (8 - (lg_sl ([.ref (E.2.1 147), .int a1])).length) Slot.unset).toArray = ls at hl ⊢
  have hl : lv_has ls 8 [(0, .ref (E.2.1 147)), (1, .int a1)] := hl
  unfold f_X12_boughtBy at hf
  have kw0 := hts (.fieldLink RX12 285 "MilkTwiceModel" "rowMany" "I") (List.mem_of_getElem? (i := 1) rfl)
  have kw1 := hts (.fieldLink RX12 53 "MilkTwiceModel" "row" "[I") (List.mem_of_getElem? (i := 2) rfl)
  have hinX12 : ∀ w ∈ u_ws RX12 TX12 29, w ∈ wsX12_boughtBy := fun w h => List.mem_cons_of_mem _ (List.mem_append_right _ h)
  refine lv_bipush (v := 127) hx hb dX12_boughtBy_0 (by decide) ?_
  refine lv_istore_n (lv' := [(2, .int (127 : Int32)), (0, .ref (E.2.1 147)), (1, .int a1)]) hx hb dX12_boughtBy_2 rfl hl (by decide) rfl (fun ls hl => ?_)
  refine lv_bipush (v := 127) hx hb dX12_boughtBy_3 (by decide) ?_
  refine lv_istore_n (lv' := [(3, .int (127 : Int32)), (2, .int (127 : Int32)), (0, .ref (E.2.1 147)), (1, .int a1)]) hx hb dX12_boughtBy_5 rfl hl (by decide) rfl (fun ls hl => ?_)
  refine lv_iconst (v := 0) hx hb dX12_boughtBy_6 (by decide) ?_
  refine lv_istore (lv' := [(4, .int (0 : Int32)), (3, .int (127 : Int32)), (2, .int (127 : Int32)), (0, .ref (E.2.1 147)), (1, .int a1)]) hx hb dX12_boughtBy_7 hl (by decide) rfl (fun ls hl => ?_)
  refine lv_iconst (v := 0) hx hb dX12_boughtBy_9 (by decide) ?_
  refine lv_istore (lv' := [(5, .int (0 : Int32)), (4, .int (0 : Int32)), (3, .int (127 : Int32)), (2, .int (127 : Int32)), (0, .ref (E.2.1 147)), (1, .int a1)]) hx hb dX12_boughtBy_10 hl (by decide) rfl (fun ls hl => ?_)
  refine mt_lpI4 hf (fun (x1 : Int32) (x2 : Int32) (x3 : Int32) (x4 : Int32) => ∀ (H : Heap) (locs : List Loc) (ls : Array Slot), mt_H E M u H → va_S (mt_A E) s.heap H locs → lv_has ls 8 [(0, .ref (E.2.1 147)), (1, .int a1), (2, .int x1), (3, .int x2), (4, .int x3), (5, .int x4)] → W p l e (headSpec wsX12_boughtBy ({ frames := 1, cells := 0, slots := 0, locals := 21 } : Room)).room s mid (([.ref (E.2.1 147), .int a1] : List Value).toArray) below meth c0 H locs 0 0 (MQ below (mt_Qi E r M u) (([.ref (E.2.1 147), .int a1] : List Value).toArray) s 0 0 (mt_A E)) (F0 mid 12 ls [])) ?_ _ _ _ hH hS (lv_sub hl [4, 5, 3, 2, 1, 0] rfl)
  intro k5 ih6 x1 x2 x3 x4 hf H locs ls hH hS hl
  refine lv_iload hx hb dX12_boughtBy_12 (lv_at hl 5 rfl) ?_
  refine lv_aload_n hx hb dX12_boughtBy_14 rfl (lv_at hl 0 rfl) ?_
  refine mt_geti (C := RX12) (T := TX12) (N := 29) hx hb hts hinX12 hown hI hH mt_T147 rfl 27 (by decide) kw0 rfl rfl dX12_boughtBy_15 ?_
  refine lv_icmp_ge (tgt := 128) hx hb dX12_boughtBy_18 (by decide) (fun c7 => ?_) (fun c7 => ?_)
  · have hf := mt_ifT c7 hf
    refine lv_iload hx hb dX12_boughtBy_128 (lv_at hl 4 rfl) ?_
    have i1 := mt_so1 hf
    subst i1
    exact mt_iret hx hb hr hI hH hS hlocks dX12_boughtBy_130
  · have hf := mt_ifF c7 hf
    refine lv_iconst (v := 1) hx hb dX12_boughtBy_21 (by decide) ?_
    refine lv_aload_n hx hb dX12_boughtBy_22 rfl (lv_at hl 0 rfl) ?_
    refine mt_getr (C := RX12) (T := TX12) (N := 29) hx hb hts hinX12 hown hI hH mt_T147 rfl 26 (by decide) kw1 rfl rfl dX12_boughtBy_23 ?_
    refine lv_iload hx hb dX12_boughtBy_26 (lv_at hl 5 rfl) ?_
    refine mt_ciI hf (fun q8 hf => ?_)
    refine mt_iald hx hb hI hH mt_T162 q8 dX12_boughtBy_28 ?_
    refine lv_bipush (v := 10) hx hb dX12_boughtBy_29 (by decide) ?_
    refine lv_irem hx hb dX12_boughtBy_31 (by decide) ?_
    refine lv_ishl hx hb dX12_boughtBy_32 ?_
    refine mt_lti hf (fun x9 ex9 hf => ?_)
    refine lv_istore (lv' := [(6, .int x9), (0, .ref (E.2.1 147)), (1, .int a1), (2, .int x1), (3, .int x2), (4, .int x3), (5, .int x4)]) hx hb dX12_boughtBy_33 hl (by decide) rfl (fun ls hl => ?_)
    refine lv_aload_n hx hb dX12_boughtBy_35 rfl (lv_at hl 1 rfl) ?_
    refine mt_getr (C := RX12) (T := TX12) (N := 29) hx hb hts hinX12 hown hI hH mt_T147 rfl 26 (by decide) kw1 rfl rfl dX12_boughtBy_36 ?_
    refine lv_iload hx hb dX12_boughtBy_39 (lv_at hl 6 rfl) ?_
    refine mt_ciI hf (fun q10 hf => ?_)
    refine mt_iald hx hb hI hH mt_T162 q10 dX12_boughtBy_41 ?_
    refine lv_bipush (v := 10) hx hb dX12_boughtBy_42 (by decide) ?_
    refine lv_idiv hx hb dX12_boughtBy_44 (by decide) ?_
    refine lv_iconst (v := 1) hx hb dX12_boughtBy_45 (by decide) ?_
    refine mt_jn1 hf (fun (v11 : Int32) => ∀ (H : Heap) (locs : List Loc) (ls : Array Slot), mt_H E M u H → va_S (mt_A E) s.heap H locs → lv_has ls 8 [(0, .ref (E.2.1 147)), (1, .int a1), (2, .int x1), (3, .int x2), (4, .int x3), (5, .int x4), (6, .int x9)] → W p l e (headSpec wsX12_boughtBy ({ frames := 1, cells := 0, slots := 0, locals := 21 } : Room)).room s mid (([.ref (E.2.1 147), .int a1] : List Value).toArray) below meth c0 H locs 0 0 (MQ below (mt_Qi E r M u) (([.ref (E.2.1 147), .int a1] : List Value).toArray) s 0 0 (mt_A E)) (F0 mid 54 ls [.int v11])) ?_ ?_
    · intro v11 hf H locs ls hH hS hl
      refine lv_istore (lv' := [(7, .int v11), (0, .ref (E.2.1 147)), (1, .int a1), (2, .int x1), (3, .int x2), (4, .int x3), (5, .int x4), (6, .int x9)]) hx hb dX12_boughtBy_54 hl (by decide) rfl (fun ls hl => ?_)
      refine lv_iload hx hb dX12_boughtBy_56 (lv_at hl 5 rfl) ?_
      refine lv_iload hx hb dX12_boughtBy_58 (lv_at hl 0 rfl) ?_
      refine mt_jn1 hf (fun (v14 : Int32) => ∀ (H : Heap) (locs : List Loc) (ls : Array Slot), mt_H E M u H → va_S (mt_A E) s.heap H locs → lv_has ls 8 [(0, .ref (E.2.1 147)), (1, .int a1), (2, .int x1), (3, .int x2), (5, .int x4), (6, .int x9), (7, .int v11)] → W p l e (headSpec wsX12_boughtBy ({ frames := 1, cells := 0, slots := 0, locals := 21 } : Room)).room s mid (([.ref (E.2.1 147), .int a1] : List Value).toArray) below meth c0 H locs 0 0 (MQ below (mt_Qi E r M u) (([.ref (E.2.1 147), .int a1] : List Value).toArray) s 0 0 (mt_A E)) (F0 mid 68 ls [.int v14, .int x3])) ?_ ?_
      · intro v14 hf H locs ls hH hS hl
        refine lv_iload hx hb dX12_boughtBy_68 (lv_at hl 5 rfl) ?_
        refine lv_iand hx hb dX12_boughtBy_70 ?_
        refine mt_jn1 hf (fun (v17 : Int32) => ∀ (H : Heap) (locs : List Loc) (ls : Array Slot), mt_H E M u H → va_S (mt_A E) s.heap H locs → lv_has ls 8 [(0, .ref (E.2.1 147)), (1, .int a1), (2, .int x1), (3, .int x2), (5, .int x4), (6, .int x9), (7, .int v11)] → W p l e (headSpec wsX12_boughtBy ({ frames := 1, cells := 0, slots := 0, locals := 21 } : Room)).room s mid (([.ref (E.2.1 147), .int a1] : List Value).toArray) below meth c0 H locs 0 0 (MQ below (mt_Qi E r M u) (([.ref (E.2.1 147), .int a1] : List Value).toArray) s 0 0 (mt_A E)) (F0 mid 79 ls [.int v17, .int x3])) ?_ ?_
        · intro v17 hf H locs ls hH hS hl
          refine lv_iadd hx hb dX12_boughtBy_79 ?_
          refine mt_lti hf (fun x20 ex20 hf => ?_)
          refine lv_istore (lv' := [(4, .int x20), (0, .ref (E.2.1 147)), (1, .int a1), (2, .int x1), (3, .int x2), (5, .int x4), (6, .int x9), (7, .int v11)]) hx hb dX12_boughtBy_80 hl (by decide) rfl (fun ls hl => ?_)
          refine lv_iload hx hb dX12_boughtBy_82 (lv_at hl 7 rfl) ?_
          refine mt_jn2 hf (fun (x21 : Int32) (x22 : Int32) => ∀ (H : Heap) (locs : List Loc) (ls : Array Slot), mt_H E M u H → va_S (mt_A E) s.heap H locs → lv_has ls 8 [(0, .ref (E.2.1 147)), (1, .int a1), (2, .int x21), (3, .int x22), (4, .int x20), (5, .int x4)] → W p l e (headSpec wsX12_boughtBy ({ frames := 1, cells := 0, slots := 0, locals := 21 } : Room)).room s mid (([.ref (E.2.1 147), .int a1] : List Value).toArray) below meth c0 H locs 0 0 (MQ below (mt_Qi E r M u) (([.ref (E.2.1 147), .int a1] : List Value).toArray) s 0 0 (mt_A E)) (F0 mid 104 ls [])) ?_ ?_
          · intro x21 x22 hf H locs ls hH hS hl
            refine lv_iload_n hx hb dX12_boughtBy_104 rfl (lv_at hl 1 rfl) ?_
            refine lv_iload hx hb dX12_boughtBy_105 (lv_at hl 5 rfl) ?_
            refine mt_b1I hf (fun r26 hg25 hf => ?_)
            refine mt_goi (mt_runS (As := [.int a1, .int x4]) (rest := []) ⟨hx, hb, hml, hown, hts⟩ hI hH (c_X12_has l E a1 x4 M u _ hg25) (va_cwS 2 hts gX12_boughtBy_X12_has rfl rfl rfl (by decide +kernel) ⟨Nat.le_of_ble_eq_true rfl, Nat.le_of_ble_eq_true rfl⟩) rfl hl.1 rfl (Nat.le_of_ble_eq_true rfl) dX12_boughtBy_107 ⟨Nat.zero_le _, Nat.zero_le _⟩) hS (fun H locs hH hS => ?_)
            refine mt_jn2 hf (fun (x27 : Int32) (x28 : Int32) => ∀ (H : Heap) (locs : List Loc) (ls : Array Slot), mt_H E M u H → va_S (mt_A E) s.heap H locs → lv_has ls 8 [(0, .ref (E.2.1 147)), (1, .int a1), (2, .int x27), (3, .int x28), (4, .int x20), (5, .int x4)] → W p l e (headSpec wsX12_boughtBy ({ frames := 1, cells := 0, slots := 0, locals := 21 } : Room)).room s mid (([.ref (E.2.1 147), .int a1] : List Value).toArray) below meth c0 H locs 0 0 (MQ below (mt_Qi E r M u) (([.ref (E.2.1 147), .int a1] : List Value).toArray) s 0 0 (mt_A E)) (F0 mid 122 ls [])) ?_ ?_
            · intro x27 x28 hf H locs ls hH hS hl
              refine mt_ltI hf (fun x31 ex31 hf => ?_)
              refine lv_iinc (v := x31) (lv' := [(5, .int x31), (0, .ref (E.2.1 147)), (1, .int a1), (2, .int x27), (3, .int x28), (4, .int x20)]) hx hb dX12_boughtBy_122 hl (k := 5) rfl (by rw [ex31]; rfl) (by decide) rfl (fun ls hl => ?_)
              refine lv_goto (tgt := 12) hx hb dX12_boughtBy_125 (by decide) ?_
              exact ih6 x27 x28 x20 x31 hf _ _ _ hH hS (lv_sub hl [1, 2, 3, 4, 5, 0] rfl)
            · intro j29 hj30 hf
              refine lv_if_ne (tgt := 116) hx hb dX12_boughtBy_110 (by decide) (fun c32 => ?_) (fun c32 => ?_)
              · have hf := mt_ifF c32 hf
                refine lv_iload_n hx hb dX12_boughtBy_116 rfl (lv_at hl 2 rfl) ?_
                refine lv_iload_n hx hb dX12_boughtBy_117 rfl (lv_at hl 3 rfl) ?_
                refine lv_iand hx hb dX12_boughtBy_118 ?_
                refine mt_lti hf (fun x33 ex33 hf => ?_)
                refine lv_istore_n (lv' := [(2, .int x33), (0, .ref (E.2.1 147)), (1, .int a1), (3, .int x22), (4, .int x20), (5, .int x4)]) hx hb dX12_boughtBy_119 rfl hl (by decide) rfl (fun ls hl => ?_)
                refine lv_iload_n hx hb dX12_boughtBy_120 rfl (lv_at hl 0 rfl) ?_
                refine lv_istore_n (lv' := [(3, .int x33), (2, .int x33), (0, .ref (E.2.1 147)), (1, .int a1), (4, .int x20), (5, .int x4)]) hx hb dX12_boughtBy_121 rfl hl (by decide) rfl (fun ls hl => ?_)
                exact hj30 x33 x33 hf _ _ _ hH hS (lv_sub hl [2, 3, 1, 0, 4, 5] rfl)
              · have hf := mt_ifT c32 hf
                refine lv_goto (tgt := 122) hx hb dX12_boughtBy_113 (by decide) ?_
                exact hj30 x21 x22 hf _ _ _ hH hS (lv_sub hl [0, 1, 2, 3, 4, 5] rfl)
          · intro j23 hj24 hf
            refine lv_if_eq (tgt := 97) hx hb dX12_boughtBy_84 (by decide) (fun c34 => ?_) (fun c34 => ?_)
            · have hf := mt_ifT c34 hf
              refine lv_iload_n hx hb dX12_boughtBy_97 rfl (lv_at hl 3 rfl) ?_
              refine lv_iload hx hb dX12_boughtBy_98 (lv_at hl 6 rfl) ?_
              refine lv_iconst (v := (-1)) hx hb dX12_boughtBy_100 (by decide) ?_
              refine lv_ixor hx hb dX12_boughtBy_101 ?_
              refine lv_iand hx hb dX12_boughtBy_102 ?_
              refine mt_lti hf (fun x35 ex35 hf => ?_)
              refine lv_istore_n (lv' := [(2, .int x35), (4, .int x20), (0, .ref (E.2.1 147)), (1, .int a1), (3, .int x2), (5, .int x4), (6, .int x9), (7, .int v11)]) hx hb dX12_boughtBy_103 rfl hl (by decide) rfl (fun ls hl => ?_)
              exact hj24 x35 x2 hf _ _ _ hH hS (lv_sub hl [2, 3, 0, 4, 1, 5] rfl)
            · have hf := mt_ifF c34 hf
              refine lv_iload_n hx hb dX12_boughtBy_87 rfl (lv_at hl 4 rfl) ?_
              refine lv_iload hx hb dX12_boughtBy_88 (lv_at hl 6 rfl) ?_
              refine lv_iconst (v := (-1)) hx hb dX12_boughtBy_90 (by decide) ?_
              refine lv_ixor hx hb dX12_boughtBy_91 ?_
              refine lv_iand hx hb dX12_boughtBy_92 ?_
              refine mt_lti hf (fun x36 ex36 hf => ?_)
              refine lv_istore_n (lv' := [(3, .int x36), (4, .int x20), (0, .ref (E.2.1 147)), (1, .int a1), (2, .int x1), (5, .int x4), (6, .int x9), (7, .int v11)]) hx hb dX12_boughtBy_93 rfl hl (by decide) rfl (fun ls hl => ?_)
              refine lv_goto (tgt := 104) hx hb dX12_boughtBy_94 (by decide) ?_
              exact hj24 x1 x36 hf _ _ _ hH hS (lv_sub hl [2, 3, 4, 0, 1, 5] rfl)
        · intro j18 hj19 hf
          refine lv_if_eq (tgt := 78) hx hb dX12_boughtBy_71 (by decide) (fun c37 => ?_) (fun c37 => ?_)
          · have hf := mt_ifT c37 hf
            refine lv_iconst (v := 0) hx hb dX12_boughtBy_78 (by decide) ?_
            exact hj19 (0 : Int32) hf _ _ _ hH hS (lv_sub hl [0, 1, 2, 3, 4, 5, 6] rfl)
          · have hf := mt_ifF c37 hf
            refine lv_iconst (v := 1) hx hb dX12_boughtBy_74 (by decide) ?_
            refine lv_goto (tgt := 79) hx hb dX12_boughtBy_75 (by decide) ?_
            exact hj19 (1 : Int32) hf _ _ _ hH hS (lv_sub hl [0, 1, 2, 3, 4, 5, 6] rfl)
      · intro j15 hj16 hf
        refine lv_if_eq (tgt := 67) hx hb dX12_boughtBy_60 (by decide) (fun c38 => ?_) (fun c38 => ?_)
        · have hf := mt_ifT c38 hf
          refine lv_iload_n hx hb dX12_boughtBy_67 rfl (lv_at hl 3 rfl) ?_
          exact hj16 x1 hf _ _ _ hH hS (lv_sub hl [1, 2, 3, 4, 6, 7, 0] rfl)
        · have hf := mt_ifF c38 hf
          refine lv_iload_n hx hb dX12_boughtBy_63 rfl (lv_at hl 4 rfl) ?_
          refine lv_goto (tgt := 68) hx hb dX12_boughtBy_64 (by decide) ?_
          exact hj16 x2 hf _ _ _ hH hS (lv_sub hl [1, 2, 3, 4, 6, 7, 0] rfl)
    · intro j12 hj13 hf
      refine lv_icmp_ne (tgt := 53) hx hb dX12_boughtBy_46 (by decide) (fun c39 => ?_) (fun c39 => ?_)
      · have hf := mt_ifF c39 hf
        refine lv_iconst (v := 0) hx hb dX12_boughtBy_53 (by decide) ?_
        exact hj13 (0 : Int32) hf _ _ _ hH hS (lv_sub hl [1, 2, 3, 4, 5, 6, 0] rfl)
      · have hf := mt_ifT c39 hf
        refine lv_iconst (v := 1) hx hb dX12_boughtBy_49 (by decide) ?_
        refine lv_goto (tgt := 54) hx hb dX12_boughtBy_50 (by decide) ?_
        exact hj13 (1 : Int32) hf _ _ _ hH hS (lv_sub hl [1, 2, 3, 4, 5, 6, 0] rfl)
set_option maxHeartbeats 4000000 in
set_option maxRecDepth 100000 in
theorem c_X12_fridge (l : Launch) (E : mt_E) (a1 : Int32) (a2 : Int32) (M : mt_M) (u : mt_U) (r : Int32) (M' : mt_M) (hf : f_X12_fridge a1 a2 M = some (r, M')) : Met l yX12_fridge wsX12_fridge ({ frames := 3, cells := 0, slots := 0, locals := 64 } : Room) (mt_P E [.ref (E.2.1 147), .int a1, .int a2] M u) (mt_Qi E r M' u) 0 0 (mt_A E) := by
  refine Met.ofW (cc := cX12_fridge) (maxL := 7) (ret := (some .int)) (by decide) rfl ?_
  intro p e s mid args below meth c0 s₁ B hml hv
  obtain ⟨rfl, hI, hH⟩ := hv
  have hx := B.exec
  have hb := B.bytes
  have hr := B.returns
  have hts := atoms_spec (ws := wsX12_fridge) B.pre
  have hown : s.vm.findClass RX12 = some mid.cls := findClass_of_methodNamed B.named
  have hlocks := B.notSynchronized
  have hS : va_S (mt_A E) s.heap s.heap [] := va_S.rf
  have hl := lv_entry ([.ref (E.2.1 147), .int a1, .int a2]) (n := 7) (Nat.le_of_ble_eq_true rfl)
  rw [lg_entry_eq]
  generalize (lg_sl ([.ref (E.2.1 147), .int a1, .int a2]) ++ List.replicate (7 - (lg_sl ([.ref (E.2.1 147), .int a1, .int a2])).length) Slot.unset).toArray = ls at hl ⊢
  have hl : lv_has ls 7 [(0, .ref (E.2.1 147)), (1, .int a1), (2, .int a2)] := hl
  unfold f_X12_fridge at hf
  have kw0 := hts (.fieldLink RX12 285 "MilkTwiceModel" "rowMany" "I") (List.mem_of_getElem? (i := 1) rfl)
  have hinX12 : ∀ w ∈ u_ws RX12 TX12 29, w ∈ wsX12_fridge := fun w h => List.mem_cons_of_mem _ (List.mem_append_right _ h)
  refine lv_iload_n hx hb dX12_fridge_0 rfl (lv_at hl 1 rfl) ?_
  refine lv_iconst (v := 0) hx hb dX12_fridge_1 (by decide) ?_
  refine lv_bipush (v := 99) hx hb dX12_fridge_2 (by decide) ?_
  refine mt_b1I hf (fun r2 hg1 hf => ?_)
  refine mt_goi (mt_runS (As := [.int a1, .int (0 : Int32), .int (99 : Int32)]) (rest := []) ⟨hx, hb, hml, hown, hts⟩ hI hH (c_X12_bound l E a1 (0 : Int32) (99 : Int32) M u _ hg1) (va_cwS 3 hts gX12_fridge_X12_bound rfl rfl rfl (by decide +kernel) ⟨Nat.le_of_ble_eq_true rfl, Nat.le_of_ble_eq_true rfl⟩) rfl hl.1 rfl (Nat.le_of_ble_eq_true rfl) dX12_fridge_4 ⟨Nat.zero_le _, Nat.zero_le _⟩) hS (fun H locs hH hS => ?_)
  refine lv_istore_n (lv' := [(3, .int r2), (0, .ref (E.2.1 147)), (1, .int a1), (2, .int a2)]) hx hb dX12_fridge_7 rfl hl (by decide) rfl (fun ls hl => ?_)
  refine lv_iload_n hx hb dX12_fridge_8 rfl (lv_at hl 0 rfl) ?_
  refine mt_jn1 hf (fun (x3 : Int32) => ∀ (H : Heap) (locs : List Loc) (ls : Array Slot), mt_H E M u H → va_S (mt_A E) s.heap H locs → lv_has ls 7 [(0, .ref (E.2.1 147)), (1, .int a1), (2, .int a2), (3, .int x3)] → W p l e (headSpec wsX12_fridge ({ frames := 3, cells := 0, slots := 0, locals := 64 } : Room)).room s mid (([.ref (E.2.1 147), .int a1, .int a2] : List Value).toArray) below meth c0 H locs 0 0 (MQ below (mt_Qi E r M' u) (([.ref (E.2.1 147), .int a1, .int a2] : List Value).toArray) s 0 0 (mt_A E)) (F0 mid 40 ls [])) ?_ ?_
  · intro x3 hf H locs ls hH hS hl
    refine lv_iload_n hx hb dX12_fridge_40 rfl (lv_at hl 3 rfl) ?_
    refine lv_if_eq (tgt := 50) hx hb dX12_fridge_41 (by decide) (fun c6 => ?_) (fun c6 => ?_)
    · have hf := mt_ifT c6 hf
      refine lv_iconst (v := 0) hx hb dX12_fridge_50 (by decide) ?_
      refine lv_istore (lv' := [(4, .int (0 : Int32)), (0, .ref (E.2.1 147)), (1, .int a1), (2, .int a2), (3, .int x3)]) hx hb dX12_fridge_51 hl (by decide) rfl (fun ls hl => ?_)
      refine lv_bipush (v := (-9)) hx hb dX12_fridge_53 (by decide) ?_
      refine lv_istore (lv' := [(5, .int (-9 : Int32)), (4, .int (0 : Int32)), (0, .ref (E.2.1 147)), (1, .int a1), (2, .int a2), (3, .int x3)]) hx hb dX12_fridge_55 hl (by decide) rfl (fun ls hl => ?_)
      refine lv_iconst (v := 1) hx hb dX12_fridge_57 (by decide) ?_
      refine lv_aload_n hx hb dX12_fridge_58 rfl (lv_at hl 2 rfl) ?_
      refine mt_geti (C := RX12) (T := TX12) (N := 29) hx hb hts hinX12 hown hI hH mt_T147 rfl 27 (by decide) kw0 rfl rfl dX12_fridge_59 ?_
      refine lv_iconst (v := 1) hx hb dX12_fridge_62 (by decide) ?_
      refine mt_jn1 hf (fun (v7 : Int32) => ∀ (H : Heap) (locs : List Loc) (ls : Array Slot), mt_H E M u H → va_S (mt_A E) s.heap H locs → lv_has ls 7 [(0, .ref (E.2.1 147)), (1, .int a1), (2, .int a2), (4, .int (0 : Int32)), (5, .int (-9 : Int32))] → W p l e (headSpec wsX12_fridge ({ frames := 3, cells := 0, slots := 0, locals := 64 } : Room)).room s mid (([.ref (E.2.1 147), .int a1, .int a2] : List Value).toArray) below meth c0 H locs 0 0 (MQ below (mt_Qi E r M' u) (([.ref (E.2.1 147), .int a1, .int a2] : List Value).toArray) s 0 0 (mt_A E)) (F0 mid 76 ls [.int v7, .int (1 : Int32)])) ?_ ?_
      · intro v7 hf H locs ls hH hS hl
        refine lv_ishl hx hb dX12_fridge_76 ?_
        refine lv_iconst (v := 1) hx hb dX12_fridge_77 (by decide) ?_
        refine lv_isub hx hb dX12_fridge_78 ?_
        refine mt_lti hf (fun x10 ex10 hf => ?_)
        refine lv_istore (lv' := [(6, .int x10), (0, .ref (E.2.1 147)), (1, .int a1), (2, .int a2), (4, .int (0 : Int32)), (5, .int (-9 : Int32))]) hx hb dX12_fridge_79 hl (by decide) rfl (fun ls hl => ?_)
        refine mt_lpI3 hf (fun (x11 : Int32) (x12 : Int32) (x13 : Int32) => ∀ (H : Heap) (locs : List Loc) (ls : Array Slot), mt_H E M u H → va_S (mt_A E) s.heap H locs → lv_has ls 7 [(0, .ref (E.2.1 147)), (1, .int a1), (2, .int a2), (4, .int x11), (5, .int x12), (6, .int x13)] → W p l e (headSpec wsX12_fridge ({ frames := 3, cells := 0, slots := 0, locals := 64 } : Room)).room s mid (([.ref (E.2.1 147), .int a1, .int a2] : List Value).toArray) below meth c0 H locs 0 0 (MQ below (mt_Qi E r M' u) (([.ref (E.2.1 147), .int a1, .int a2] : List Value).toArray) s 0 0 (mt_A E)) (F0 mid 81 ls [])) ?_ _ _ _ hH hS (lv_sub hl [1, 2, 3, 4, 5, 0] rfl)
        intro k14 ih15 x11 x12 x13 hf H locs ls hH hS hl
        refine lv_iload hx hb dX12_fridge_81 (lv_at hl 5 rfl) ?_
        refine lv_if_lt (tgt := 112) hx hb dX12_fridge_83 (by decide) (fun c16 => ?_) (fun c16 => ?_)
        · have hf := mt_ifT c16 hf
          refine lv_iload_n hx hb dX12_fridge_112 rfl (lv_at hl 2 rfl) ?_
          refine lv_if_ne (tgt := 121) hx hb dX12_fridge_113 (by decide) (fun c17 => ?_) (fun c17 => ?_)
          · have hf := mt_ifF c17 hf
            refine lv_iload hx hb dX12_fridge_121 (lv_at hl 4 rfl) ?_
            obtain ⟨i1, i2⟩ := mt_so2 hf
            subst i1
            subst i2
            exact mt_iret hx hb hr hI hH hS hlocks dX12_fridge_123
          · have hf := mt_ifT c17 hf
            refine lv_iload hx hb dX12_fridge_116 (lv_at hl 3 rfl) ?_
            refine lv_goto (tgt := 123) hx hb dX12_fridge_118 (by decide) ?_
            obtain ⟨i1, i2⟩ := mt_so2 hf
            subst i1
            subst i2
            exact mt_iret hx hb hr hI hH hS hlocks dX12_fridge_123
        · have hf := mt_ifF c16 hf
          refine lv_aload_n hx hb dX12_fridge_86 rfl (lv_at hl 0 rfl) ?_
          refine lv_iload hx hb dX12_fridge_87 (lv_at hl 5 rfl) ?_
          refine mt_b1I hf (fun r19 hg18 hf => ?_)
          refine mt_goi (mt_runV (i := 147) (As := [.int x13]) (rest := []) ⟨hx, hb, hml, hown, hts⟩ hI hH (c_X12_boughtBy l E x13 M u _ hg18) (cwV 1 hts gX12_fridge_X12_boughtBy rfl rfl rfl (by decide +kernel) ⟨Nat.le_of_ble_eq_true rfl, Nat.le_of_ble_eq_true rfl⟩) mt_T147 rfl rfl hl.1 rfl (Nat.le_of_ble_eq_true rfl) dX12_fridge_89 ⟨Nat.zero_le _, Nat.zero_le _⟩) hS (fun H locs hH hS => ?_)
          refine lv_iload_n hx hb dX12_fridge_92 rfl (lv_at hl 1 rfl) ?_
          refine mt_jn2 hf (fun (x20 : Int32) (x21 : Int32) => ∀ (H : Heap) (locs : List Loc) (ls : Array Slot), mt_H E M u H → va_S (mt_A E) s.heap H locs → lv_has ls 7 [(0, .ref (E.2.1 147)), (1, .int a1), (2, .int a2), (4, .int x20), (5, .int x21), (6, .int x13)] → W p l e (headSpec wsX12_fridge ({ frames := 3, cells := 0, slots := 0, locals := 64 } : Room)).room s mid (([.ref (E.2.1 147), .int a1, .int a2] : List Value).toArray) below meth c0 H locs 0 0 (MQ below (mt_Qi E r M' u) (([.ref (E.2.1 147), .int a1, .int a2] : List Value).toArray) s 0 0 (mt_A E)) (F0 mid 106 ls [])) ?_ ?_
          · intro x20 x21 hf H locs ls hH hS hl
            refine mt_ltI hf (fun x24 ex24 hf => ?_)
            refine lv_iinc (v := x24) (lv' := [(6, .int x24), (0, .ref (E.2.1 147)), (1, .int a1), (2, .int a2), (4, .int x20), (5, .int x21)]) hx hb dX12_fridge_106 hl (k := 5) rfl (by rw [ex24]; rfl) (by decide) rfl (fun ls hl => ?_)
            refine lv_goto (tgt := 81) hx hb dX12_fridge_109 (by decide) ?_
            exact ih15 x20 x21 x24 hf _ _ _ hH hS (lv_sub hl [1, 2, 3, 4, 5, 0] rfl)
          · intro j22 hj23 hf
            refine lv_icmp_eq (tgt := 99) hx hb dX12_fridge_93 (by decide) (fun c25 => ?_) (fun c25 => ?_)
            · have hf := mt_ifT c25 hf
              refine mt_ltI hf (fun x26 ex26 hf => ?_)
              refine lv_iinc (v := x26) (lv' := [(4, .int x26), (0, .ref (E.2.1 147)), (1, .int a1), (2, .int a2), (5, .int x12), (6, .int x13)]) hx hb dX12_fridge_99 hl (k := 3) rfl (by rw [ex26]; rfl) (by decide) rfl (fun ls hl => ?_)
              refine lv_iload hx hb dX12_fridge_102 (lv_at hl 5 rfl) ?_
              refine lv_istore (lv' := [(5, .int x13), (4, .int x26), (0, .ref (E.2.1 147)), (1, .int a1), (2, .int a2), (6, .int x13)]) hx hb dX12_fridge_104 hl (by decide) rfl (fun ls hl => ?_)
              exact hj23 x26 x13 hf _ _ _ hH hS (lv_sub hl [2, 3, 4, 1, 0, 5] rfl)
            · have hf := mt_ifF c25 hf
              refine lv_goto (tgt := 106) hx hb dX12_fridge_96 (by decide) ?_
              exact hj23 x11 x12 hf _ _ _ hH hS (lv_sub hl [0, 1, 2, 3, 4, 5] rfl)
      · intro j8 hj9 hf
        refine lv_icmp_ge (tgt := 70) hx hb dX12_fridge_63 (by decide) (fun c27 => ?_) (fun c27 => ?_)
        · have hf := mt_ifT c27 hf
          refine lv_aload_n hx hb dX12_fridge_70 rfl (lv_at hl 2 rfl) ?_
          refine mt_geti (C := RX12) (T := TX12) (N := 29) hx hb hts hinX12 hown hI hH mt_T147 rfl 27 (by decide) kw0 rfl rfl dX12_fridge_71 ?_
          refine lv_iconst (v := 1) hx hb dX12_fridge_74 (by decide) ?_
          refine lv_isub hx hb dX12_fridge_75 ?_
          exact hj9 ((M 147 27) - (1 : Int32)) hf _ _ _ hH hS (lv_sub hl [2, 3, 4, 1, 0] rfl)
        · have hf := mt_ifF c27 hf
          refine lv_iconst (v := 0) hx hb dX12_fridge_66 (by decide) ?_
          refine lv_goto (tgt := 76) hx hb dX12_fridge_67 (by decide) ?_
          exact hj9 (0 : Int32) hf _ _ _ hH hS (lv_sub hl [2, 3, 4, 1, 0] rfl)
    · have hf := mt_ifF c6 hf
      refine lv_aload_n hx hb dX12_fridge_44 rfl (lv_at hl 0 rfl) ?_
      refine lv_iload_n hx hb dX12_fridge_45 rfl (lv_at hl 3 rfl) ?_
      refine mt_b2I hf (fun r29 M30 hg28 hf => ?_)
      refine mt_goi (mt_runV (i := 147) (As := [.int x3]) (rest := []) ⟨hx, hb, hml, hown, hts⟩ hI hH (c_X12_no l E x3 M u _ _ hg28) (cwV 1 hts gX12_fridge_X12_no rfl rfl rfl (by decide +kernel) ⟨Nat.le_of_ble_eq_true rfl, Nat.le_of_ble_eq_true rfl⟩) mt_T147 rfl rfl hl.1 rfl (Nat.le_of_ble_eq_true rfl) dX12_fridge_46 ⟨Nat.zero_le _, Nat.zero_le _⟩) hS (fun H locs hH hS => ?_)
      obtain ⟨i1, i2⟩ := mt_so2 hf
      subst i1
      subst i2
      exact mt_iret hx hb hr hI hH hS hlocks dX12_fridge_49
  · intro j4 hj5 hf
    refine lv_if_ne (tgt := 40) hx hb dX12_fridge_9 (by decide) (fun c31 => ?_) (fun c31 => ?_)
    · have hf := mt_ifF c31 hf
      exact hj5 r2 hf _ _ _ hH hS (lv_sub hl [1, 2, 3, 0] rfl)
    · have hf := mt_ifT c31 hf
      refine lv_iload_n hx hb dX12_fridge_12 rfl (lv_at hl 3 rfl) ?_
      refine lv_iconst (v := 0) hx hb dX12_fridge_13 (by decide) ?_
      refine lv_iconst (v := 1) hx hb dX12_fridge_14 (by decide) ?_
      refine mt_b1I hf (fun r33 hg32 hf => ?_)
      refine mt_goi (mt_runS (As := [.int a2, .int (0 : Int32), .int (1 : Int32)]) (rest := []) ⟨hx, hb, hml, hown, hts⟩ hI hH (c_X12_isIn l E a2 (0 : Int32) (1 : Int32) M u _ hg32) (va_cwS 3 hts gX12_fridge_X12_isIn rfl rfl rfl (by decide +kernel) ⟨Nat.le_of_ble_eq_true rfl, Nat.le_of_ble_eq_true rfl⟩) rfl hl.1 rfl (Nat.le_of_ble_eq_true rfl) dX12_fridge_15 ⟨Nat.zero_le _, Nat.zero_le _⟩) hS (fun H locs hH hS => ?_)
      refine mt_jn1 hf (fun (v34 : Int32) => ∀ (H : Heap) (locs : List Loc) (ls : Array Slot), mt_H E M u H → va_S (mt_A E) s.heap H locs → lv_has ls 7 [(0, .ref (E.2.1 147)), (1, .int a1), (2, .int a2)] → W p l e (headSpec wsX12_fridge ({ frames := 3, cells := 0, slots := 0, locals := 64 } : Room)).room s mid (([.ref (E.2.1 147), .int a1, .int a2] : List Value).toArray) below meth c0 H locs 0 0 (MQ below (mt_Qi E r M' u) (([.ref (E.2.1 147), .int a1, .int a2] : List Value).toArray) s 0 0 (mt_A E)) (F0 mid 39 ls [.int v34])) ?_ ?_
      · intro v34 hf H locs ls hH hS hl
        refine lv_istore_n (lv' := [(3, .int v34), (0, .ref (E.2.1 147)), (1, .int a1), (2, .int a2)]) hx hb dX12_fridge_39 rfl hl (by decide) rfl (fun ls hl => ?_)
        exact hj5 v34 hf _ _ _ hH hS (lv_sub hl [1, 2, 3, 0] rfl)
      · intro j35 hj36 hf
        refine lv_if_ne (tgt := 26) hx hb dX12_fridge_18 (by decide) (fun c37 => ?_) (fun c37 => ?_)
        · have hf := mt_ifF c37 hf
          refine lv_aload_n hx hb dX12_fridge_26 rfl (lv_at hl 1 rfl) ?_
          refine mt_b1I hf (fun r39 hg38 hf => ?_)
          refine mt_goi (mt_runV (i := 147) (As := []) (rest := []) ⟨hx, hb, hml, hown, hts⟩ hI hH (c_X12_areGoings l E M u _ hg38) (cwV 0 hts gX12_fridge_X12_areGoings rfl rfl rfl (by decide +kernel) ⟨Nat.le_of_ble_eq_true rfl, Nat.le_of_ble_eq_true rfl⟩) mt_T147 rfl rfl hl.1 rfl (Nat.le_of_ble_eq_true rfl) dX12_fridge_27 ⟨Nat.zero_le _, Nat.zero_le _⟩) hS (fun H locs hH hS => ?_)
          refine lv_if_ne (tgt := 38) hx hb dX12_fridge_30 (by decide) (fun c40 => ?_) (fun c40 => ?_)
          · have hf := mt_ifF c40 hf
            refine lv_iconst (v := 0) hx hb dX12_fridge_38 (by decide) ?_
            exact hj36 (0 : Int32) hf _ _ _ hH hS (lv_sub hl [1, 2, 3] rfl)
          · have hf := mt_ifT c40 hf
            refine lv_bipush (v := (-3)) hx hb dX12_fridge_33 (by decide) ?_
            refine lv_goto (tgt := 39) hx hb dX12_fridge_35 (by decide) ?_
            exact hj36 (-3 : Int32) hf _ _ _ hH hS (lv_sub hl [1, 2, 3] rfl)
        · have hf := mt_ifT c37 hf
          refine lv_bipush (v := (-2)) hx hb dX12_fridge_21 (by decide) ?_
          refine lv_goto (tgt := 39) hx hb dX12_fridge_23 (by decide) ?_
          exact hj36 (-2 : Int32) hf _ _ _ hH hS (lv_sub hl [1, 2, 3] rfl)
set_option maxHeartbeats 4000000 in
set_option maxRecDepth 100000 in
theorem c_X12_latest (l : Launch) (E : mt_E)  (M : mt_M) (u : mt_U) (r : Int32) (hf : f_X12_latest M = some (r)) : Met l yX12_latest wsX12_latest ({ frames := 0, cells := 0, slots := 0, locals := 0 } : Room) (mt_P E [.ref (E.2.1 147)] M u) (mt_Qi E r M u) 0 0 (mt_A E) := by
  refine Met.ofW (cc := cX12_latest) (maxL := 5) (ret := (some .int)) (by decide) rfl ?_
  intro p e s mid args below meth c0 s₁ B hml hv
  obtain ⟨rfl, hI, hH⟩ := hv
  have hx := B.exec
  have hb := B.bytes
  have hr := B.returns
  have hts := atoms_spec (ws := wsX12_latest) B.pre
  have hown : s.vm.findClass RX12 = some mid.cls := findClass_of_methodNamed B.named
  have hlocks := B.notSynchronized
  have hS : va_S (mt_A E) s.heap s.heap [] := va_S.rf
  have hl := lv_entry ([.ref (E.2.1 147)]) (n := 5) (Nat.le_of_ble_eq_true rfl)
  rw [lg_entry_eq]
  generalize (lg_sl ([.ref (E.2.1 147)]) ++ List.replicate (5 - (lg_sl ([.ref (E.2.1 147)])).length) Slot.unset).toArray = ls at hl ⊢
  have hl : lv_has ls 5 [(0, .ref (E.2.1 147))] := hl
  unfold f_X12_latest at hf
  have kw0 := hts (.fieldLink RX12 59 "MilkTwiceModel" "things" "I") (List.mem_of_getElem? (i := 1) rfl)
  have kw1 := hts (.fieldLink RX12 28 "MilkTwiceModel" "clock" "[I") (List.mem_of_getElem? (i := 2) rfl)
  have hinX12 : ∀ w ∈ u_ws RX12 TX12 29, w ∈ wsX12_latest := fun w h => List.mem_cons_of_mem _ (List.mem_append_right _ h)
  refine lv_bipush (v := (-9)) hx hb dX12_latest_0 (by decide) ?_
  refine lv_istore_n (lv' := [(1, .int (-9 : Int32)), (0, .ref (E.2.1 147))]) hx hb dX12_latest_2 rfl hl (by decide) rfl (fun ls hl => ?_)
  refine lv_iconst (v := 0) hx hb dX12_latest_3 (by decide) ?_
  refine lv_istore_n (lv' := [(2, .int (0 : Int32)), (1, .int (-9 : Int32)), (0, .ref (E.2.1 147))]) hx hb dX12_latest_4 rfl hl (by decide) rfl (fun ls hl => ?_)
  refine lv_iconst (v := 0) hx hb dX12_latest_5 (by decide) ?_
  refine lv_istore_n (lv' := [(3, .int (0 : Int32)), (2, .int (0 : Int32)), (1, .int (-9 : Int32)), (0, .ref (E.2.1 147))]) hx hb dX12_latest_6 rfl hl (by decide) rfl (fun ls hl => ?_)
  refine mt_lpI3 hf (fun (x1 : Int32) (x2 : Int32) (x3 : Int32) => ∀ (H : Heap) (locs : List Loc) (ls : Array Slot), mt_H E M u H → va_S (mt_A E) s.heap H locs → lv_has ls 5 [(0, .ref (E.2.1 147)), (1, .int x1), (2, .int x2), (3, .int x3)] → W p l e (headSpec wsX12_latest ({ frames := 0, cells := 0, slots := 0, locals := 0 } : Room)).room s mid (([.ref (E.2.1 147)] : List Value).toArray) below meth c0 H locs 0 0 (MQ below (mt_Qi E r M u) (([.ref (E.2.1 147)] : List Value).toArray) s 0 0 (mt_A E)) (F0 mid 7 ls [])) ?_ _ _ _ hH hS (lv_sub hl [3, 2, 1, 0] rfl)
  intro k4 ih5 x1 x2 x3 hf H locs ls hH hS hl
  refine lv_iload_n hx hb dX12_latest_7 rfl (lv_at hl 3 rfl) ?_
  refine lv_iconst (v := 2) hx hb dX12_latest_8 (by decide) ?_
  refine lv_aload_n hx hb dX12_latest_9 rfl (lv_at hl 0 rfl) ?_
  refine mt_geti (C := RX12) (T := TX12) (N := 29) hx hb hts hinX12 hown hI hH mt_T147 rfl 8 (by decide) kw0 rfl rfl dX12_latest_10 ?_
  refine lv_imul hx hb dX12_latest_13 ?_
  refine lv_icmp_ge (tgt := 68) hx hb dX12_latest_14 (by decide) (fun c6 => ?_) (fun c6 => ?_)
  · have hf := mt_ifT c6 hf
    refine lv_iload_n hx hb dX12_latest_68 rfl (lv_at hl 1 rfl) ?_
    have i1 := mt_so1 hf
    subst i1
    exact mt_iret hx hb hr hI hH hS hlocks dX12_latest_69
  · have hf := mt_ifF c6 hf
    refine lv_bipush (v := 7) hx hb dX12_latest_17 (by decide) ?_
    refine lv_iload_n hx hb dX12_latest_19 rfl (lv_at hl 3 rfl) ?_
    refine lv_iconst (v := 2) hx hb dX12_latest_20 (by decide) ?_
    refine lv_irem hx hb dX12_latest_21 (by decide) ?_
    refine lv_imul hx hb dX12_latest_22 ?_
    refine lv_iload_n hx hb dX12_latest_23 rfl (lv_at hl 3 rfl) ?_
    refine lv_iconst (v := 2) hx hb dX12_latest_24 (by decide) ?_
    refine lv_idiv hx hb dX12_latest_25 (by decide) ?_
    refine lv_iadd hx hb dX12_latest_26 ?_
    refine mt_lti hf (fun x7 ex7 hf => ?_)
    refine lv_istore (lv' := [(4, .int x7), (0, .ref (E.2.1 147)), (1, .int x1), (2, .int x2), (3, .int x3)]) hx hb dX12_latest_27 hl (by decide) rfl (fun ls hl => ?_)
    refine lv_aload_n hx hb dX12_latest_29 rfl (lv_at hl 1 rfl) ?_
    refine mt_getr (C := RX12) (T := TX12) (N := 29) hx hb hts hinX12 hown hI hH mt_T147 rfl 6 (by decide) kw1 rfl rfl dX12_latest_30 ?_
    refine lv_iload hx hb dX12_latest_33 (lv_at hl 0 rfl) ?_
    refine mt_ciI hf (fun q8 hf => ?_)
    refine mt_iald hx hb hI hH mt_T154 q8 dX12_latest_35 ?_
    refine lv_iload_n hx hb dX12_latest_36 rfl (lv_at hl 3 rfl) ?_
    refine mt_jn2 hf (fun (x9 : Int32) (x10 : Int32) => ∀ (H : Heap) (locs : List Loc) (ls : Array Slot), mt_H E M u H → va_S (mt_A E) s.heap H locs → lv_has ls 5 [(0, .ref (E.2.1 147)), (1, .int x9), (2, .int x10), (3, .int x3)] → W p l e (headSpec wsX12_latest ({ frames := 0, cells := 0, slots := 0, locals := 0 } : Room)).room s mid (([.ref (E.2.1 147)] : List Value).toArray) below meth c0 H locs 0 0 (MQ below (mt_Qi E r M u) (([.ref (E.2.1 147)] : List Value).toArray) s 0 0 (mt_A E)) (F0 mid 62 ls [])) ?_ ?_
    · intro x9 x10 hf H locs ls hH hS hl
      refine mt_ltI hf (fun x13 ex13 hf => ?_)
      refine lv_iinc (v := x13) (lv' := [(3, .int x13), (0, .ref (E.2.1 147)), (1, .int x9), (2, .int x10)]) hx hb dX12_latest_62 hl (k := 3) rfl (by rw [ex13]; rfl) (by decide) rfl (fun ls hl => ?_)
      refine lv_goto (tgt := 7) hx hb dX12_latest_65 (by decide) ?_
      exact ih5 x9 x10 x13 hf _ _ _ hH hS (lv_sub hl [1, 2, 3, 0] rfl)
    · intro j11 hj12 hf
      refine lv_icmp_gt (tgt := 43) hx hb dX12_latest_37 (by decide) (fun c14 => ?_) (fun c14 => ?_)
      · have hf := mt_ifT c14 hf
        refine lv_bipush (v := 10) hx hb dX12_latest_43 (by decide) ?_
        refine lv_iload_n hx hb dX12_latest_45 rfl (lv_at hl 4 rfl) ?_
        refine lv_iconst (v := 2) hx hb dX12_latest_46 (by decide) ?_
        refine lv_idiv hx hb dX12_latest_47 (by decide) ?_
        refine lv_imul hx hb dX12_latest_48 ?_
        refine lv_iload_n hx hb dX12_latest_49 rfl (lv_at hl 4 rfl) ?_
        refine lv_iconst (v := 2) hx hb dX12_latest_50 (by decide) ?_
        refine lv_irem hx hb dX12_latest_51 (by decide) ?_
        refine lv_iadd hx hb dX12_latest_52 ?_
        refine mt_lti hf (fun x15 ex15 hf => ?_)
        refine lv_istore_n (lv' := [(1, .int x15), (4, .int x7), (0, .ref (E.2.1 147)), (2, .int x2), (3, .int x3)]) hx hb dX12_latest_53 rfl hl (by decide) rfl (fun ls hl => ?_)
        refine lv_aload_n hx hb dX12_latest_54 rfl (lv_at hl 2 rfl) ?_
        refine mt_getr (C := RX12) (T := TX12) (N := 29) hx hb hts hinX12 hown hI hH mt_T147 rfl 6 (by decide) kw1 rfl rfl dX12_latest_55 ?_
        refine lv_iload hx hb dX12_latest_58 (lv_at hl 1 rfl) ?_
        refine mt_ciI hf (fun q16 hf => ?_)
        refine mt_iald hx hb hI hH mt_T154 q16 dX12_latest_60 ?_
        refine mt_lti hf (fun x17 ex17 hf => ?_)
        refine lv_istore_n (lv' := [(2, .int x17), (1, .int x15), (4, .int x7), (0, .ref (E.2.1 147)), (3, .int x3)]) hx hb dX12_latest_61 rfl hl (by decide) rfl (fun ls hl => ?_)
        exact hj12 x15 x17 hf _ _ _ hH hS (lv_sub hl [3, 1, 0, 4] rfl)
      · have hf := mt_ifF c14 hf
        refine lv_goto (tgt := 62) hx hb dX12_latest_40 (by decide) ?_
        exact hj12 x1 x2 hf _ _ _ hH hS (lv_sub hl [1, 2, 3, 4] rfl)
set_option maxHeartbeats 4000000 in
set_option maxRecDepth 100000 in
theorem c_X12_twice (l : Launch) (E : mt_E)  (M : mt_M) (u : mt_U) (r : Int32) (hf : f_X12_twice M = some (r)) : Met l yX12_twice wsX12_twice ({ frames := 1, cells := 0, slots := 0, locals := 23 } : Room) (mt_P E [.ref (E.2.1 147)] M u) (mt_Qi E r M u) 0 0 (mt_A E) := by
  refine Met.ofW (cc := cX12_twice) (maxL := 1) (ret := (some .int)) (by decide) rfl ?_
  intro p e s mid args below meth c0 s₁ B hml hv
  obtain ⟨rfl, hI, hH⟩ := hv
  have hx := B.exec
  have hb := B.bytes
  have hr := B.returns
  have hts := atoms_spec (ws := wsX12_twice) B.pre
  have hown : s.vm.findClass RX12 = some mid.cls := findClass_of_methodNamed B.named
  have hlocks := B.notSynchronized
  have hS : va_S (mt_A E) s.heap s.heap [] := va_S.rf
  have hl := lv_entry ([.ref (E.2.1 147)]) (n := 1) (Nat.le_of_ble_eq_true rfl)
  rw [lg_entry_eq]
  generalize (lg_sl ([.ref (E.2.1 147)]) ++ List.replicate (1 - (lg_sl ([.ref (E.2.1 147)])).length) Slot.unset).toArray = ls at hl ⊢
  have hl : lv_has ls 1 [(0, .ref (E.2.1 147))] := hl
  unfold f_X12_twice at hf
  refine lv_aload_n hx hb dX12_twice_0 rfl (lv_at hl 0 rfl) ?_
  refine lv_iconst (v := 0) hx hb dX12_twice_1 (by decide) ?_
  refine mt_b1I hf (fun r2 hg1 hf => ?_)
  refine mt_goi (mt_runV (i := 147) (As := [.int (0 : Int32)]) (rest := []) ⟨hx, hb, hml, hown, hts⟩ hI hH (c_X12_wants l E (0 : Int32) M u _ hg1) (cwV 1 hts gX12_twice_X12_wants rfl rfl rfl (by decide +kernel) ⟨Nat.le_of_ble_eq_true rfl, Nat.le_of_ble_eq_true rfl⟩) mt_T147 rfl rfl hl.1 rfl (Nat.le_of_ble_eq_true rfl) dX12_twice_2 ⟨Nat.zero_le _, Nat.zero_le _⟩) hS (fun H locs hH hS => ?_)
  refine lv_aload_n hx hb dX12_twice_5 rfl (lv_at hl 0 rfl) ?_
  refine lv_iconst (v := 1) hx hb dX12_twice_6 (by decide) ?_
  refine mt_b1I hf (fun r4 hg3 hf => ?_)
  refine mt_goi (mt_runV (i := 147) (As := [.int (1 : Int32)]) (rest := [.int r2]) ⟨hx, hb, hml, hown, hts⟩ hI hH (c_X12_wants l E (1 : Int32) M u _ hg3) (cwV 1 hts gX12_twice_X12_wants rfl rfl rfl (by decide +kernel) ⟨Nat.le_of_ble_eq_true rfl, Nat.le_of_ble_eq_true rfl⟩) mt_T147 rfl rfl hl.1 rfl (Nat.le_of_ble_eq_true rfl) dX12_twice_7 ⟨Nat.zero_le _, Nat.zero_le _⟩) hS (fun H locs hH hS => ?_)
  refine lv_iand hx hb dX12_twice_10 ?_
  have i1 := mt_so1 hf
  subst i1
  exact mt_iret hx hb hr hI hH hS hlocks dX12_twice_11
set_option maxHeartbeats 4000000 in
set_option maxRecDepth 100000 in
theorem c_X12_month (l : Launch) (E : mt_E)  (M : mt_M) (u : mt_U) (r : Int32) (M' : mt_M) (hf : f_X12_month M = some (r, M')) : Met l yX12_month wsX12_month ({ frames := 3, cells := 0, slots := 0, locals := 67 } : Room) (mt_P E [.ref (E.2.1 147)] M u) (mt_Qi E r M' u) 0 0 (mt_A E) := by
  refine Met.ofW (cc := cX12_month) (maxL := 4) (ret := (some .int)) (by decide) rfl ?_
  intro p e s mid args below meth c0 s₁ B hml hv
  obtain ⟨rfl, hI, hH⟩ := hv
  have hx := B.exec
  have hb := B.bytes
  have hr := B.returns
  have hts := atoms_spec (ws := wsX12_month) B.pre
  have hown : s.vm.findClass RX12 = some mid.cls := findClass_of_methodNamed B.named
  have hlocks := B.notSynchronized
  have hS : va_S (mt_A E) s.heap s.heap [] := va_S.rf
  have hl := lv_entry ([.ref (E.2.1 147)]) (n := 4) (Nat.le_of_ble_eq_true rfl)
  rw [lg_entry_eq]
  generalize (lg_sl ([.ref (E.2.1 147)]) ++ List.replicate (4 - (lg_sl ([.ref (E.2.1 147)])).length) Slot.unset).toArray = ls at hl ⊢
  have hl : lv_has ls 4 [(0, .ref (E.2.1 147))] := hl
  unfold f_X12_month at hf
  have kw0 := hts (.fieldLink RX12 31 "MilkTwiceModel" "sums" "[I") (List.mem_of_getElem? (i := 1) rfl)
  have kw1 := hts (.fieldLink RX12 59 "MilkTwiceModel" "things" "I") (List.mem_of_getElem? (i := 2) rfl)
  have kw2 := hts (.fieldLink RX12 22 "MilkTwiceModel" "stocked" "[I") (List.mem_of_getElem? (i := 3) rfl)
  have kw3 := hts (.fieldLink RX12 19 "MilkTwiceModel" "use" "[I") (List.mem_of_getElem? (i := 4) rfl)
  have hinX12 : ∀ w ∈ u_ws RX12 TX12 29, w ∈ wsX12_month := fun w h => List.mem_cons_of_mem _ (List.mem_append_right _ h)
  refine lv_aload_n hx hb dX12_month_0 rfl (lv_at hl 0 rfl) ?_
  refine mt_b1I hf (fun M2 hg1 hf => ?_)
  refine mt_gov (mt_runV (i := 147) (As := []) (rest := []) ⟨hx, hb, hml, hown, hts⟩ hI hH (c_X12_thinks l E M u _ hg1) (cwV 0 hts gX12_month_X12_thinks rfl rfl rfl (by decide +kernel) ⟨Nat.le_of_ble_eq_true rfl, Nat.le_of_ble_eq_true rfl⟩) mt_T147 rfl rfl hl.1 rfl (Nat.le_of_ble_eq_true rfl) dX12_month_1 ⟨Nat.zero_le _, Nat.zero_le _⟩) hS (fun H locs hH hS => ?_)
  refine lv_aload_n hx hb dX12_month_4 rfl (lv_at hl 0 rfl) ?_
  refine mt_getr (C := RX12) (T := TX12) (N := 29) hx hb hts hinX12 hown hI hH mt_T147 rfl 7 (by decide) kw0 rfl rfl dX12_month_5 ?_
  refine lv_iconst (v := 0) hx hb dX12_month_8 (by decide) ?_
  refine mt_iald hx hb hI hH mt_T155 (mt_vl (by decide)) dX12_month_9 ?_
  refine mt_lti hf (fun x3 ex3 hf => ?_)
  refine lv_istore_n (lv' := [(1, .int x3), (0, .ref (E.2.1 147))]) hx hb dX12_month_10 rfl hl (by decide) rfl (fun ls hl => ?_)
  refine lv_iconst (v := 0) hx hb dX12_month_11 (by decide) ?_
  refine lv_istore_n (lv' := [(2, .int (0 : Int32)), (1, .int x3), (0, .ref (E.2.1 147))]) hx hb dX12_month_12 rfl hl (by decide) rfl (fun ls hl => ?_)
  refine mt_lpI2 hf (fun (x4 : Int32) (M5 : mt_M) => ∀ (H : Heap) (locs : List Loc) (ls : Array Slot), mt_H E M5 u H → va_S (mt_A E) s.heap H locs → lv_has ls 4 [(0, .ref (E.2.1 147)), (1, .int x3), (2, .int x4)] → W p l e (headSpec wsX12_month ({ frames := 3, cells := 0, slots := 0, locals := 67 } : Room)).room s mid (([.ref (E.2.1 147)] : List Value).toArray) below meth c0 H locs 0 0 (MQ below (mt_Qi E r M' u) (([.ref (E.2.1 147)] : List Value).toArray) s 0 0 (mt_A E)) (F0 mid 13 ls [])) ?_ _ _ _ hH hS (lv_sub hl [2, 1, 0] rfl)
  intro k6 ih7 x4 M5 hf H locs ls hH hS hl
  refine lv_iload_n hx hb dX12_month_13 rfl (lv_at hl 2 rfl) ?_
  refine lv_bipush (v := 30) hx hb dX12_month_14 (by decide) ?_
  refine lv_icmp_ge (tgt := 66) hx hb dX12_month_16 (by decide) (fun c8 => ?_) (fun c8 => ?_)
  · have hf := mt_ifT c8 hf
    refine lv_aload_n hx hb dX12_month_66 rfl (lv_at hl 0 rfl) ?_
    refine mt_getr (C := RX12) (T := TX12) (N := 29) hx hb hts hinX12 hown hI hH mt_T147 rfl 7 (by decide) kw0 rfl rfl dX12_month_67 ?_
    refine lv_iconst (v := 0) hx hb dX12_month_70 (by decide) ?_
    refine mt_iald hx hb hI hH mt_T155 (mt_vl (by decide)) dX12_month_71 ?_
    refine lv_iload_n hx hb dX12_month_72 rfl (lv_at hl 1 rfl) ?_
    refine lv_isub hx hb dX12_month_73 ?_
    refine mt_lti hf (fun x9 ex9 hf => ?_)
    refine lv_istore_n (lv' := [(2, .int x9), (0, .ref (E.2.1 147)), (1, .int x3)]) hx hb dX12_month_74 rfl hl (by decide) rfl (fun ls hl => ?_)
    refine lv_aload_n hx hb dX12_month_75 rfl (lv_at hl 1 rfl) ?_
    refine mt_b1I hf (fun M11 hg10 hf => ?_)
    refine mt_gov (mt_runV (i := 147) (As := []) (rest := []) ⟨hx, hb, hml, hown, hts⟩ hI hH (c_X12_forgets l E M5 u _ hg10) (cwV 0 hts gX12_month_X12_forgets rfl rfl rfl (by decide +kernel) ⟨Nat.le_of_ble_eq_true rfl, Nat.le_of_ble_eq_true rfl⟩) mt_T147 rfl rfl hl.1 rfl (Nat.le_of_ble_eq_true rfl) dX12_month_76 ⟨Nat.zero_le _, Nat.zero_le _⟩) hS (fun H locs hH hS => ?_)
    refine lv_iload_n hx hb dX12_month_79 rfl (lv_at hl 0 rfl) ?_
    obtain ⟨i1, i2⟩ := mt_so2 hf
    subst i1
    subst i2
    exact mt_iret hx hb hr hI hH hS hlocks dX12_month_80
  · have hf := mt_ifF c8 hf
    refine lv_iconst (v := 0) hx hb dX12_month_19 (by decide) ?_
    refine lv_istore_n (lv' := [(3, .int (0 : Int32)), (0, .ref (E.2.1 147)), (1, .int x3), (2, .int x4)]) hx hb dX12_month_20 rfl hl (by decide) rfl (fun ls hl => ?_)
    refine mt_lpI2 hf (fun (x12 : Int32) (M13 : mt_M) => ∀ (H : Heap) (locs : List Loc) (ls : Array Slot), mt_H E M13 u H → va_S (mt_A E) s.heap H locs → lv_has ls 4 [(0, .ref (E.2.1 147)), (1, .int x3), (2, .int x4), (3, .int x12)] → W p l e (headSpec wsX12_month ({ frames := 3, cells := 0, slots := 0, locals := 67 } : Room)).room s mid (([.ref (E.2.1 147)] : List Value).toArray) below meth c0 H locs 0 0 (MQ below (mt_Qi E r M' u) (([.ref (E.2.1 147)] : List Value).toArray) s 0 0 (mt_A E)) (F0 mid 21 ls [])) ?_ _ _ _ hH hS (lv_sub hl [1, 2, 3, 0] rfl)
    intro k14 ih15 x12 M13 hf H locs ls hH hS hl
    refine lv_iload_n hx hb dX12_month_21 rfl (lv_at hl 3 rfl) ?_
    refine lv_aload_n hx hb dX12_month_22 rfl (lv_at hl 0 rfl) ?_
    refine mt_geti (C := RX12) (T := TX12) (N := 29) hx hb hts hinX12 hown hI hH mt_T147 rfl 8 (by decide) kw1 rfl rfl dX12_month_23 ?_
    refine lv_icmp_ge (tgt := 55) hx hb dX12_month_26 (by decide) (fun c16 => ?_) (fun c16 => ?_)
    · have hf := mt_ifT c16 hf
      refine lv_aload_n hx hb dX12_month_55 rfl (lv_at hl 0 rfl) ?_
      refine mt_b2I hf (fun r18 M19 hg17 hf => ?_)
      refine mt_goi (mt_runV (i := 147) (As := []) (rest := []) ⟨hx, hb, hml, hown, hts⟩ hI hH (c_X12_goesDay l E M13 u _ _ hg17) (cwV 0 hts gX12_month_X12_goesDay rfl rfl rfl (by decide +kernel) ⟨Nat.le_of_ble_eq_true rfl, Nat.le_of_ble_eq_true rfl⟩) mt_T147 rfl rfl hl.1 rfl (Nat.le_of_ble_eq_true rfl) dX12_month_56 ⟨Nat.zero_le _, Nat.zero_le _⟩) hS (fun H locs hH hS => ?_)
      refine lv_pop hx hb dX12_month_59 rfl ?_
      refine mt_ltI hf (fun x20 ex20 hf => ?_)
      refine lv_iinc (v := x20) (lv' := [(2, .int x20), (0, .ref (E.2.1 147)), (1, .int x3), (3, .int x12)]) hx hb dX12_month_60 hl (k := 2) rfl (by rw [ex20]; rfl) (by decide) rfl (fun ls hl => ?_)
      refine lv_goto (tgt := 13) hx hb dX12_month_63 (by decide) ?_
      exact ih7 x20 M19 hf _ _ _ hH hS (lv_sub hl [1, 2, 0] rfl)
    · have hf := mt_ifF c16 hf
      refine lv_aload_n hx hb dX12_month_29 rfl (lv_at hl 0 rfl) ?_
      refine mt_getr (C := RX12) (T := TX12) (N := 29) hx hb hts hinX12 hown hI hH mt_T147 rfl 4 (by decide) kw2 rfl rfl dX12_month_30 ?_
      refine lv_iload_n hx hb dX12_month_33 rfl (lv_at hl 3 rfl) ?_
      refine mt_ciI hf (fun q21 hf => ?_)
      refine mt_iald hx hb hI hH mt_T152 q21 dX12_month_34 ?_
      refine lv_aload_n hx hb dX12_month_35 rfl (lv_at hl 0 rfl) ?_
      refine mt_getr (C := RX12) (T := TX12) (N := 29) hx hb hts hinX12 hown hI hH mt_T147 rfl 3 (by decide) kw3 rfl rfl dX12_month_36 ?_
      refine lv_iload_n hx hb dX12_month_39 rfl (lv_at hl 3 rfl) ?_
      refine mt_ciI hf (fun q22 hf => ?_)
      refine mt_iald hx hb hI hH mt_T151 q22 dX12_month_40 ?_
      refine mt_jn1 hf (fun (M23 : mt_M) => ∀ (H : Heap) (locs : List Loc) (ls : Array Slot), mt_H E M23 u H → va_S (mt_A E) s.heap H locs → lv_has ls 4 [(0, .ref (E.2.1 147)), (1, .int x3), (2, .int x4), (3, .int x12)] → W p l e (headSpec wsX12_month ({ frames := 3, cells := 0, slots := 0, locals := 67 } : Room)).room s mid (([.ref (E.2.1 147)] : List Value).toArray) below meth c0 H locs 0 0 (MQ below (mt_Qi E r M' u) (([.ref (E.2.1 147)] : List Value).toArray) s 0 0 (mt_A E)) (F0 mid 49 ls [])) ?_ ?_
      · intro M23 hf H locs ls hH hS hl
        refine mt_ltI hf (fun x26 ex26 hf => ?_)
        refine lv_iinc (v := x26) (lv' := [(3, .int x26), (0, .ref (E.2.1 147)), (1, .int x3), (2, .int x4)]) hx hb dX12_month_49 hl (k := 3) rfl (by rw [ex26]; rfl) (by decide) rfl (fun ls hl => ?_)
        refine lv_goto (tgt := 21) hx hb dX12_month_52 (by decide) ?_
        exact ih15 x26 M23 hf _ _ _ hH hS (lv_sub hl [1, 2, 3, 0] rfl)
      · intro j24 hj25 hf
        refine lv_icmp_ge (tgt := 49) hx hb dX12_month_41 (by decide) (fun c27 => ?_) (fun c27 => ?_)
        · have hf := mt_ifT c27 hf
          exact hj25 M13 hf _ _ _ hH hS (lv_sub hl [0, 1, 2, 3] rfl)
        · have hf := mt_ifF c27 hf
          refine lv_aload_n hx hb dX12_month_44 rfl (lv_at hl 0 rfl) ?_
          refine lv_iload_n hx hb dX12_month_45 rfl (lv_at hl 3 rfl) ?_
          refine mt_b1I hf (fun M29 hg28 hf => ?_)
          refine mt_gov (mt_runV (i := 147) (As := [.int x12]) (rest := []) ⟨hx, hb, hml, hown, hts⟩ hI hH (c_X12_gets l E x12 M13 u _ hg28) (cwV 1 hts gX12_month_X12_gets rfl rfl rfl (by decide +kernel) ⟨Nat.le_of_ble_eq_true rfl, Nat.le_of_ble_eq_true rfl⟩) mt_T147 rfl rfl hl.1 rfl (Nat.le_of_ble_eq_true rfl) dX12_month_46 ⟨Nat.zero_le _, Nat.zero_le _⟩) hS (fun H locs hH hS => ?_)
          exact hj25 M29 hf _ _ _ hH hS (lv_sub hl [0, 1, 2, 3] rfl)
set_option maxHeartbeats 4000000 in
set_option maxRecDepth 100000 in
theorem c_X12_changesUses (l : Launch) (E : mt_E) (a1 : Int32) (a2 : Int32) (M : mt_M) (u : mt_U) (M' : mt_M) (hf : f_X12_changesUses a1 a2 M = some (M')) : Met l yX12_changesUses wsX12_changesUses ({ frames := 0, cells := 0, slots := 0, locals := 0 } : Room) (mt_P E [.ref (E.2.1 147), .int a1, .int a2] M u) (mt_Qv E M' u) 0 0 (mt_A E) := by
  refine Met.ofW (cc := cX12_changesUses) (maxL := 4) (ret := none) (by decide) rfl ?_
  intro p e s mid args below meth c0 s₁ B hml hv
  obtain ⟨rfl, hI, hH⟩ := hv
  have hx := B.exec
  have hb := B.bytes
  have hr := B.returns
  have hts := atoms_spec (ws := wsX12_changesUses) B.pre
  have hown : s.vm.findClass RX12 = some mid.cls := findClass_of_methodNamed B.named
  have hlocks := B.notSynchronized
  have hS : va_S (mt_A E) s.heap s.heap [] := va_S.rf
  have hl := lv_entry ([.ref (E.2.1 147), .int a1, .int a2]) (n := 4) (Nat.le_of_ble_eq_true rfl)
  rw [lg_entry_eq]
  generalize (lg_sl ([.ref (E.2.1 147), .int a1, .int a2]) ++ List.replicate (4 - (lg_sl ([.ref (E.2.1 147), .int a1, .int a2])).length) Slot.unset).toArray = ls at hl ⊢
  have hl : lv_has ls 4 [(0, .ref (E.2.1 147)), (1, .int a1), (2, .int a2)] := hl
  unfold f_X12_changesUses at hf
  have kw0 := hts (.fieldLink RX12 19 "MilkTwiceModel" "use" "[I") (List.mem_of_getElem? (i := 1) rfl)
  have hinX12 : ∀ w ∈ u_ws RX12 TX12 29, w ∈ wsX12_changesUses := fun w h => List.mem_cons_of_mem _ (List.mem_append_right _ h)
  refine lv_aload_n hx hb dX12_changesUses_0 rfl (lv_at hl 0 rfl) ?_
  refine mt_getr (C := RX12) (T := TX12) (N := 29) hx hb hts hinX12 hown hI hH mt_T147 rfl 3 (by decide) kw0 rfl rfl dX12_changesUses_1 ?_
  refine lv_iload_n hx hb dX12_changesUses_4 rfl (lv_at hl 1 rfl) ?_
  refine mt_ciI hf (fun q1 hf => ?_)
  refine mt_iald hx hb hI hH mt_T151 q1 dX12_changesUses_5 ?_
  refine mt_lti hf (fun x2 ex2 hf => ?_)
  refine lv_istore_n (lv' := [(3, .int x2), (0, .ref (E.2.1 147)), (1, .int a1), (2, .int a2)]) hx hb dX12_changesUses_6 rfl hl (by decide) rfl (fun ls hl => ?_)
  refine lv_aload_n hx hb dX12_changesUses_7 rfl (lv_at hl 1 rfl) ?_
  refine mt_getr (C := RX12) (T := TX12) (N := 29) hx hb hts hinX12 hown hI hH mt_T147 rfl 3 (by decide) kw0 rfl rfl dX12_changesUses_8 ?_
  refine lv_iload_n hx hb dX12_changesUses_11 rfl (lv_at hl 2 rfl) ?_
  refine lv_aload_n hx hb dX12_changesUses_12 rfl (lv_at hl 1 rfl) ?_
  refine mt_getr (C := RX12) (T := TX12) (N := 29) hx hb hts hinX12 hown hI hH mt_T147 rfl 3 (by decide) kw0 rfl rfl dX12_changesUses_13 ?_
  refine lv_iload_n hx hb dX12_changesUses_16 rfl (lv_at hl 3 rfl) ?_
  refine mt_ciI hf (fun q3 hf => ?_)
  refine mt_iald hx hb hI hH mt_T151 q3 dX12_changesUses_17 ?_
  refine mt_ciI hf (fun q5 hf => ?_)
  refine mt_iast hx hb hI hH hS mt_T151 q5 dX12_changesUses_18 (fun H locs hH hS => ?_)
  refine mt_ltI hf (fun M4 eM4 hf => ?_)
  rw [← eM4] at hH
  refine lv_aload_n hx hb dX12_changesUses_19 rfl (lv_at hl 1 rfl) ?_
  refine mt_getr (C := RX12) (T := TX12) (N := 29) hx hb hts hinX12 hown hI hH mt_T147 rfl 3 (by decide) kw0 rfl rfl dX12_changesUses_20 ?_
  refine lv_iload_n hx hb dX12_changesUses_23 rfl (lv_at hl 3 rfl) ?_
  refine lv_iload_n hx hb dX12_changesUses_24 rfl (lv_at hl 0 rfl) ?_
  refine mt_ciI hf (fun q7 hf => ?_)
  refine mt_iast hx hb hI hH hS mt_T151 q7 dX12_changesUses_25 (fun H locs hH hS => ?_)
  refine mt_ltI hf (fun M6 eM6 hf => ?_)
  rw [← eM6] at hH
  have i1 := mt_so1 hf
  subst i1
  exact mt_vret hx hb hr hI hH hS hlocks dX12_changesUses_26
set_option maxHeartbeats 4000000 in
set_option maxRecDepth 100000 in
theorem c_X12_swap (l : Launch) (E : mt_E)  (M : mt_M) (u : mt_U) (r : Int32) (M' : mt_M) (hf : f_X12_swap M = some (r, M')) : Met l yX12_swap wsX12_swap ({ frames := 4, cells := 0, slots := 0, locals := 91 } : Room) (mt_P E [.ref (E.2.1 147)] M u) (mt_Qi E r M' u) 0 0 (mt_A E) := by
  refine Met.ofW (cc := cX12_swap) (maxL := 6) (ret := (some .int)) (by decide) rfl ?_
  intro p e s mid args below meth c0 s₁ B hml hv
  obtain ⟨rfl, hI, hH⟩ := hv
  have hx := B.exec
  have hb := B.bytes
  have hr := B.returns
  have hts := atoms_spec (ws := wsX12_swap) B.pre
  have hown : s.vm.findClass RX12 = some mid.cls := findClass_of_methodNamed B.named
  have hlocks := B.notSynchronized
  have hS : va_S (mt_A E) s.heap s.heap [] := va_S.rf
  have hl := lv_entry ([.ref (E.2.1 147)]) (n := 6) (Nat.le_of_ble_eq_true rfl)
  rw [lg_entry_eq]
  generalize (lg_sl ([.ref (E.2.1 147)]) ++ List.replicate (6 - (lg_sl ([.ref (E.2.1 147)])).length) Slot.unset).toArray = ls at hl ⊢
  have hl : lv_has ls 6 [(0, .ref (E.2.1 147))] := hl
  unfold f_X12_swap at hf
  have kw0 := hts (.fieldLink RX12 59 "MilkTwiceModel" "things" "I") (List.mem_of_getElem? (i := 1) rfl)
  have hinX12 : ∀ w ∈ u_ws RX12 TX12 29, w ∈ wsX12_swap := fun w h => List.mem_cons_of_mem _ (List.mem_append_right _ h)
  refine lv_bipush (v := (-9)) hx hb dX12_swap_0 (by decide) ?_
  refine lv_istore_n (lv' := [(1, .int (-9 : Int32)), (0, .ref (E.2.1 147))]) hx hb dX12_swap_2 rfl hl (by decide) rfl (fun ls hl => ?_)
  refine lv_aload_n hx hb dX12_swap_3 rfl (lv_at hl 1 rfl) ?_
  refine lv_bipush (v := 7) hx hb dX12_swap_4 (by decide) ?_
  refine mt_b2I hf (fun r2 M3 hg1 hf => ?_)
  refine mt_goi (mt_runV (i := 147) (As := [.int (7 : Int32)]) (rest := []) ⟨hx, hb, hml, hown, hts⟩ hI hH (c_X12_lackingIn l E (7 : Int32) M u _ _ hg1) (cwV 1 hts gX12_swap_X12_lackingIn rfl rfl rfl (by decide +kernel) ⟨Nat.le_of_ble_eq_true rfl, Nat.le_of_ble_eq_true rfl⟩) mt_T147 rfl rfl hl.1 rfl (Nat.le_of_ble_eq_true rfl) dX12_swap_6 ⟨Nat.zero_le _, Nat.zero_le _⟩) hS (fun H locs hH hS => ?_)
  refine lv_istore_n (lv' := [(2, .int r2), (1, .int (-9 : Int32)), (0, .ref (E.2.1 147))]) hx hb dX12_swap_9 rfl hl (by decide) rfl (fun ls hl => ?_)
  refine lv_iconst (v := 0) hx hb dX12_swap_10 (by decide) ?_
  refine lv_istore_n (lv' := [(3, .int (0 : Int32)), (2, .int r2), (1, .int (-9 : Int32)), (0, .ref (E.2.1 147))]) hx hb dX12_swap_11 rfl hl (by decide) rfl (fun ls hl => ?_)
  refine mt_lpI4 hf (fun (x4 : Int32) (x5 : Int32) (x6 : Int32) (M7 : mt_M) => ∀ (H : Heap) (locs : List Loc) (ls : Array Slot), mt_H E M7 u H → va_S (mt_A E) s.heap H locs → lv_has ls 6 [(0, .ref (E.2.1 147)), (1, .int x4), (2, .int x5), (3, .int x6)] → W p l e (headSpec wsX12_swap ({ frames := 4, cells := 0, slots := 0, locals := 91 } : Room)).room s mid (([.ref (E.2.1 147)] : List Value).toArray) below meth c0 H locs 0 0 (MQ below (mt_Qi E r M' u) (([.ref (E.2.1 147)] : List Value).toArray) s 0 0 (mt_A E)) (F0 mid 12 ls [])) ?_ _ _ _ hH hS (lv_sub hl [3, 2, 1, 0] rfl)
  intro k8 ih9 x4 x5 x6 M7 hf H locs ls hH hS hl
  refine lv_iload_n hx hb dX12_swap_12 rfl (lv_at hl 3 rfl) ?_
  refine lv_aload_n hx hb dX12_swap_13 rfl (lv_at hl 0 rfl) ?_
  refine mt_geti (C := RX12) (T := TX12) (N := 29) hx hb hts hinX12 hown hI hH mt_T147 rfl 8 (by decide) kw0 rfl rfl dX12_swap_14 ?_
  refine lv_icmp_ge (tgt := 88) hx hb dX12_swap_17 (by decide) (fun c10 => ?_) (fun c10 => ?_)
  · have hf := mt_ifT c10 hf
    refine lv_iload_n hx hb dX12_swap_88 rfl (lv_at hl 1 rfl) ?_
    obtain ⟨i1, i2⟩ := mt_so2 hf
    subst i1
    subst i2
    exact mt_iret hx hb hr hI hH hS hlocks dX12_swap_89
  · have hf := mt_ifF c10 hf
    refine lv_iload_n hx hb dX12_swap_20 rfl (lv_at hl 3 rfl) ?_
    refine lv_iconst (v := 1) hx hb dX12_swap_21 (by decide) ?_
    refine lv_iadd hx hb dX12_swap_22 ?_
    refine mt_lti hf (fun x11 ex11 hf => ?_)
    refine lv_istore (lv' := [(4, .int x11), (0, .ref (E.2.1 147)), (1, .int x4), (2, .int x5), (3, .int x6)]) hx hb dX12_swap_23 hl (by decide) rfl (fun ls hl => ?_)
    refine mt_lpI4 hf (fun (x12 : Int32) (x13 : Int32) (x14 : Int32) (M15 : mt_M) => ∀ (H : Heap) (locs : List Loc) (ls : Array Slot), mt_H E M15 u H → va_S (mt_A E) s.heap H locs → lv_has ls 6 [(0, .ref (E.2.1 147)), (1, .int x12), (2, .int x13), (3, .int x6), (4, .int x14)] → W p l e (headSpec wsX12_swap ({ frames := 4, cells := 0, slots := 0, locals := 91 } : Room)).room s mid (([.ref (E.2.1 147)] : List Value).toArray) below meth c0 H locs 0 0 (MQ below (mt_Qi E r M' u) (([.ref (E.2.1 147)] : List Value).toArray) s 0 0 (mt_A E)) (F0 mid 25 ls [])) ?_ _ _ _ hH hS (lv_sub hl [1, 2, 3, 4, 0] rfl)
    intro k16 ih17 x12 x13 x14 M15 hf H locs ls hH hS hl
    refine lv_iload hx hb dX12_swap_25 (lv_at hl 4 rfl) ?_
    refine lv_aload_n hx hb dX12_swap_27 rfl (lv_at hl 0 rfl) ?_
    refine mt_geti (C := RX12) (T := TX12) (N := 29) hx hb hts hinX12 hown hI hH mt_T147 rfl 8 (by decide) kw0 rfl rfl dX12_swap_28 ?_
    refine lv_icmp_ge (tgt := 82) hx hb dX12_swap_31 (by decide) (fun c18 => ?_) (fun c18 => ?_)
    · have hf := mt_ifT c18 hf
      refine mt_ltI hf (fun x19 ex19 hf => ?_)
      refine lv_iinc (v := x19) (lv' := [(3, .int x19), (0, .ref (E.2.1 147)), (1, .int x12), (2, .int x13), (4, .int x14)]) hx hb dX12_swap_82 hl (k := 3) rfl (by rw [ex19]; rfl) (by decide) rfl (fun ls hl => ?_)
      refine lv_goto (tgt := 12) hx hb dX12_swap_85 (by decide) ?_
      exact ih9 x12 x13 x19 M15 hf _ _ _ hH hS (lv_sub hl [1, 2, 3, 0] rfl)
    · have hf := mt_ifF c18 hf
      refine lv_aload_n hx hb dX12_swap_34 rfl (lv_at hl 0 rfl) ?_
      refine lv_iload_n hx hb dX12_swap_35 rfl (lv_at hl 3 rfl) ?_
      refine lv_iload hx hb dX12_swap_36 (lv_at hl 4 rfl) ?_
      refine mt_b1I hf (fun M21 hg20 hf => ?_)
      refine mt_gov (mt_runV (i := 147) (As := [.int x6, .int x14]) (rest := []) ⟨hx, hb, hml, hown, hts⟩ hI hH (c_X12_changesUses l E x6 x14 M15 u _ hg20) (cwV 2 hts gX12_swap_X12_changesUses rfl rfl rfl (by decide +kernel) ⟨Nat.le_of_ble_eq_true rfl, Nat.le_of_ble_eq_true rfl⟩) mt_T147 rfl rfl hl.1 rfl (Nat.le_of_ble_eq_true rfl) dX12_swap_38 ⟨Nat.zero_le _, Nat.zero_le _⟩) hS (fun H locs hH hS => ?_)
      refine lv_aload_n hx hb dX12_swap_41 rfl (lv_at hl 0 rfl) ?_
      refine lv_bipush (v := 7) hx hb dX12_swap_42 (by decide) ?_
      refine mt_b2I hf (fun r23 M24 hg22 hf => ?_)
      refine mt_goi (mt_runV (i := 147) (As := [.int (7 : Int32)]) (rest := []) ⟨hx, hb, hml, hown, hts⟩ hI hH (c_X12_lackingIn l E (7 : Int32) M21 u _ _ hg22) (cwV 1 hts gX12_swap_X12_lackingIn rfl rfl rfl (by decide +kernel) ⟨Nat.le_of_ble_eq_true rfl, Nat.le_of_ble_eq_true rfl⟩) mt_T147 rfl rfl hl.1 rfl (Nat.le_of_ble_eq_true rfl) dX12_swap_44 ⟨Nat.zero_le _, Nat.zero_le _⟩) hS (fun H locs hH hS => ?_)
      refine lv_istore (lv' := [(5, .int r23), (0, .ref (E.2.1 147)), (1, .int x12), (2, .int x13), (3, .int x6), (4, .int x14)]) hx hb dX12_swap_47 hl (by decide) rfl (fun ls hl => ?_)
      refine lv_aload_n hx hb dX12_swap_49 rfl (lv_at hl 1 rfl) ?_
      refine lv_iload_n hx hb dX12_swap_50 rfl (lv_at hl 4 rfl) ?_
      refine lv_iload hx hb dX12_swap_51 (lv_at hl 5 rfl) ?_
      refine mt_b1I hf (fun M26 hg25 hf => ?_)
      refine mt_gov (mt_runV (i := 147) (As := [.int x6, .int x14]) (rest := []) ⟨hx, hb, hml, hown, hts⟩ hI hH (c_X12_changesUses l E x6 x14 M24 u _ hg25) (cwV 2 hts gX12_swap_X12_changesUses rfl rfl rfl (by decide +kernel) ⟨Nat.le_of_ble_eq_true rfl, Nat.le_of_ble_eq_true rfl⟩) mt_T147 rfl rfl hl.1 rfl (Nat.le_of_ble_eq_true rfl) dX12_swap_53 ⟨Nat.zero_le _, Nat.zero_le _⟩) hS (fun H locs hH hS => ?_)
      refine lv_iload hx hb dX12_swap_56 (lv_at hl 0 rfl) ?_
      refine lv_iload_n hx hb dX12_swap_58 rfl (lv_at hl 3 rfl) ?_
      refine mt_jn2 hf (fun (x27 : Int32) (x28 : Int32) => ∀ (H : Heap) (locs : List Loc) (ls : Array Slot), mt_H E M26 u H → va_S (mt_A E) s.heap H locs → lv_has ls 6 [(0, .ref (E.2.1 147)), (1, .int x27), (2, .int x28), (3, .int x6), (4, .int x14)] → W p l e (headSpec wsX12_swap ({ frames := 4, cells := 0, slots := 0, locals := 91 } : Room)).room s mid (([.ref (E.2.1 147)] : List Value).toArray) below meth c0 H locs 0 0 (MQ below (mt_Qi E r M' u) (([.ref (E.2.1 147)] : List Value).toArray) s 0 0 (mt_A E)) (F0 mid 76 ls [])) ?_ ?_
      · intro x27 x28 hf H locs ls hH hS hl
        refine mt_ltI hf (fun x31 ex31 hf => ?_)
        refine lv_iinc (v := x31) (lv' := [(4, .int x31), (0, .ref (E.2.1 147)), (1, .int x27), (2, .int x28), (3, .int x6)]) hx hb dX12_swap_76 hl (k := 4) rfl (by rw [ex31]; rfl) (by decide) rfl (fun ls hl => ?_)
        refine lv_goto (tgt := 25) hx hb dX12_swap_79 (by decide) ?_
        exact ih17 x27 x28 x31 M26 hf _ _ _ hH hS (lv_sub hl [1, 2, 3, 4, 0] rfl)
      · intro j29 hj30 hf
        refine lv_icmp_lt (tgt := 65) hx hb dX12_swap_59 (by decide) (fun c32 => ?_) (fun c32 => ?_)
        · have hf := mt_ifT c32 hf
          refine lv_bipush (v := 10) hx hb dX12_swap_65 (by decide) ?_
          refine lv_iload_n hx hb dX12_swap_67 rfl (lv_at hl 4 rfl) ?_
          refine lv_imul hx hb dX12_swap_68 ?_
          refine lv_iload hx hb dX12_swap_69 (lv_at hl 5 rfl) ?_
          refine lv_iadd hx hb dX12_swap_71 ?_
          refine mt_lti hf (fun x33 ex33 hf => ?_)
          refine lv_istore_n (lv' := [(1, .int x33), (5, .int r23), (0, .ref (E.2.1 147)), (2, .int x13), (3, .int x6), (4, .int x14)]) hx hb dX12_swap_72 rfl hl (by decide) rfl (fun ls hl => ?_)
          refine lv_iload hx hb dX12_swap_73 (lv_at hl 1 rfl) ?_
          refine lv_istore_n (lv' := [(2, .int r23), (1, .int x33), (5, .int r23), (0, .ref (E.2.1 147)), (3, .int x6), (4, .int x14)]) hx hb dX12_swap_75 rfl hl (by decide) rfl (fun ls hl => ?_)
          exact hj30 x33 r23 hf _ _ _ hH hS (lv_sub hl [3, 1, 0, 4, 5] rfl)
        · have hf := mt_ifF c32 hf
          refine lv_goto (tgt := 76) hx hb dX12_swap_62 (by decide) ?_
          exact hj30 x12 x13 hf _ _ _ hH hS (lv_sub hl [1, 2, 3, 4, 5] rfl)
set_option maxHeartbeats 4000000 in
set_option maxRecDepth 100000 in
theorem c_X12_notMonth (l : Launch) (E : mt_E) (a0 : Int32) (M : mt_M) (u : mt_U) (r : Int32) (hf : f_X12_notMonth a0 = some (r)) : Met l yX12_notMonth wsX12_notMonth ({ frames := 1, cells := 0, slots := 0, locals := 22 } : Room) (mt_P E [.int a0] M u) (mt_Qi E r M u) 0 0 (mt_A E) := by
  refine Met.ofW (cc := cX12_notMonth) (maxL := 1) (ret := (some .int)) (by decide) rfl ?_
  intro p e s mid args below meth c0 s₁ B hml hv
  obtain ⟨rfl, hI, hH⟩ := hv
  have hx := B.exec
  have hb := B.bytes
  have hr := B.returns
  have hts := atoms_spec (ws := wsX12_notMonth) B.pre
  have hown : s.vm.findClass RX12 = some mid.cls := findClass_of_methodNamed B.named
  have hlocks := B.notSynchronized
  have hS : va_S (mt_A E) s.heap s.heap [] := va_S.rf
  have hl := lv_entry ([.int a0]) (n := 1) (Nat.le_of_ble_eq_true rfl)
  rw [lg_entry_eq]
  generalize (lg_sl ([.int a0]) ++ List.replicate (1 - (lg_sl ([.int a0])).length) Slot.unset).toArray = ls at hl ⊢
  have hl : lv_has ls 1 [(0, .int a0)] := hl
  unfold f_X12_notMonth at hf
  refine lv_iload_n hx hb dX12_notMonth_0 rfl (lv_at hl 0 rfl) ?_
  refine lv_iconst (v := 1) hx hb dX12_notMonth_1 (by decide) ?_
  refine lv_bipush (v := 30) hx hb dX12_notMonth_2 (by decide) ?_
  refine mt_b1I hf (fun r2 hg1 hf => ?_)
  refine mt_goi (mt_runS (As := [.int a0, .int (1 : Int32), .int (30 : Int32)]) (rest := []) ⟨hx, hb, hml, hown, hts⟩ hI hH (c_X12_bound l E a0 (1 : Int32) (30 : Int32) M u _ hg1) (va_cwS 3 hts gX12_notMonth_X12_bound rfl rfl rfl (by decide +kernel) ⟨Nat.le_of_ble_eq_true rfl, Nat.le_of_ble_eq_true rfl⟩) rfl hl.1 rfl (Nat.le_of_ble_eq_true rfl) dX12_notMonth_4 ⟨Nat.zero_le _, Nat.zero_le _⟩) hS (fun H locs hH hS => ?_)
  have i1 := mt_so1 hf
  subst i1
  exact mt_iret hx hb hr hI hH hS hlocks dX12_notMonth_7
set_option maxHeartbeats 4000000 in
set_option maxRecDepth 100000 in
theorem c_X12_needs (l : Launch) (E : mt_E) (a1 : Int32) (a2 : Int32) (M : mt_M) (u : mt_U) (r : Int32) (M' : mt_M) (hf : f_X12_needs a1 a2 M = some (r, M')) : Met l yX12_needs wsX12_needs ({ frames := 4, cells := 0, slots := 0, locals := 89 } : Room) (mt_P E [.ref (E.2.1 147), .int a1, .int a2] M u) (mt_Qi E r M' u) 0 0 (mt_A E) := by
  refine Met.ofW (cc := cX12_needs) (maxL := 7) (ret := (some .int)) (by decide) rfl ?_
  intro p e s mid args below meth c0 s₁ B hml hv
  obtain ⟨rfl, hI, hH⟩ := hv
  have hx := B.exec
  have hb := B.bytes
  have hr := B.returns
  have hts := atoms_spec (ws := wsX12_needs) B.pre
  have hown : s.vm.findClass RX12 = some mid.cls := findClass_of_methodNamed B.named
  have hlocks := B.notSynchronized
  have hS : va_S (mt_A E) s.heap s.heap [] := va_S.rf
  have hl := lv_entry ([.ref (E.2.1 147), .int a1, .int a2]) (n := 7) (Nat.le_of_ble_eq_true rfl)
  rw [lg_entry_eq]
  generalize (lg_sl ([.ref (E.2.1 147), .int a1, .int a2]) ++ List.replicate (7 - (lg_sl ([.ref (E.2.1 147), .int a1, .int a2])).length) Slot.unset).toArray = ls at hl ⊢
  have hl : lv_has ls 7 [(0, .ref (E.2.1 147)), (1, .int a1), (2, .int a2)] := hl
  unfold f_X12_needs at hf
  have kw0 := hts (.fieldLink RX12 22 "MilkTwiceModel" "stocked" "[I") (List.mem_of_getElem? (i := 1) rfl)
  have hinX12 : ∀ w ∈ u_ws RX12 TX12 29, w ∈ wsX12_needs := fun w h => List.mem_cons_of_mem _ (List.mem_append_right _ h)
  refine lv_aload_n hx hb dX12_needs_0 rfl (lv_at hl 0 rfl) ?_
  refine lv_iload_n hx hb dX12_needs_1 rfl (lv_at hl 1 rfl) ?_
  refine mt_b1I hf (fun r2 hg1 hf => ?_)
  refine mt_goi (mt_runV (i := 147) (As := [.int a1]) (rest := []) ⟨hx, hb, hml, hown, hts⟩ hI hH (c_X12_isThing l E a1 M u _ hg1) (cwV 1 hts gX12_needs_X12_isThing rfl rfl rfl (by decide +kernel) ⟨Nat.le_of_ble_eq_true rfl, Nat.le_of_ble_eq_true rfl⟩) mt_T147 rfl rfl hl.1 rfl (Nat.le_of_ble_eq_true rfl) dX12_needs_2 ⟨Nat.zero_le _, Nat.zero_le _⟩) hS (fun H locs hH hS => ?_)
  refine mt_jn1 hf (fun (v3 : Int32) => ∀ (H : Heap) (locs : List Loc) (ls : Array Slot), mt_H E M u H → va_S (mt_A E) s.heap H locs → lv_has ls 7 [(0, .ref (E.2.1 147)), (1, .int a1), (2, .int a2)] → W p l e (headSpec wsX12_needs ({ frames := 4, cells := 0, slots := 0, locals := 89 } : Room)).room s mid (([.ref (E.2.1 147), .int a1, .int a2] : List Value).toArray) below meth c0 H locs 0 0 (MQ below (mt_Qi E r M' u) (([.ref (E.2.1 147), .int a1, .int a2] : List Value).toArray) s 0 0 (mt_A E)) (F0 mid 16 ls [.int v3])) ?_ ?_
  · intro v3 hf H locs ls hH hS hl
    refine lv_istore_n (lv' := [(3, .int v3), (0, .ref (E.2.1 147)), (1, .int a1), (2, .int a2)]) hx hb dX12_needs_16 rfl hl (by decide) rfl (fun ls hl => ?_)
    refine lv_iload_n hx hb dX12_needs_17 rfl (lv_at hl 0 rfl) ?_
    refine lv_if_eq (tgt := 27) hx hb dX12_needs_18 (by decide) (fun c6 => ?_) (fun c6 => ?_)
    · have hf := mt_ifT c6 hf
      refine lv_aload_n hx hb dX12_needs_27 rfl (lv_at hl 1 rfl) ?_
      refine mt_getr (C := RX12) (T := TX12) (N := 29) hx hb hts hinX12 hown hI hH mt_T147 rfl 4 (by decide) kw0 rfl rfl dX12_needs_28 ?_
      refine lv_iload_n hx hb dX12_needs_31 rfl (lv_at hl 2 rfl) ?_
      refine mt_ciI hf (fun q7 hf => ?_)
      refine mt_iald hx hb hI hH mt_T152 q7 dX12_needs_32 ?_
      refine mt_lti hf (fun x8 ex8 hf => ?_)
      refine lv_istore (lv' := [(4, .int x8), (3, .int v3), (0, .ref (E.2.1 147)), (1, .int a1), (2, .int a2)]) hx hb dX12_needs_33 hl (by decide) rfl (fun ls hl => ?_)
      refine lv_bipush (v := (-9)) hx hb dX12_needs_35 (by decide) ?_
      refine lv_istore (lv' := [(5, .int (-9 : Int32)), (4, .int x8), (3, .int v3), (0, .ref (E.2.1 147)), (1, .int a1), (2, .int a2)]) hx hb dX12_needs_37 hl (by decide) rfl (fun ls hl => ?_)
      refine lv_iconst (v := 0) hx hb dX12_needs_39 (by decide) ?_
      refine lv_istore (lv' := [(6, .int (0 : Int32)), (5, .int (-9 : Int32)), (4, .int x8), (3, .int v3), (0, .ref (E.2.1 147)), (1, .int a1), (2, .int a2)]) hx hb dX12_needs_40 hl (by decide) rfl (fun ls hl => ?_)
      refine mt_lpI3 hf (fun (x9 : Int32) (x10 : Int32) (M11 : mt_M) => ∀ (H : Heap) (locs : List Loc) (ls : Array Slot), mt_H E M11 u H → va_S (mt_A E) s.heap H locs → lv_has ls 7 [(0, .ref (E.2.1 147)), (1, .int a1), (2, .int a2), (4, .int x8), (5, .int x9), (6, .int x10)] → W p l e (headSpec wsX12_needs ({ frames := 4, cells := 0, slots := 0, locals := 89 } : Room)).room s mid (([.ref (E.2.1 147), .int a1, .int a2] : List Value).toArray) below meth c0 H locs 0 0 (MQ below (mt_Qi E r M' u) (([.ref (E.2.1 147), .int a1, .int a2] : List Value).toArray) s 0 0 (mt_A E)) (F0 mid 42 ls [])) ?_ _ _ _ hH hS (lv_sub hl [4, 5, 6, 2, 1, 0] rfl)
      intro k12 ih13 x9 x10 M11 hf H locs ls hH hS hl
      refine lv_iload hx hb dX12_needs_42 (lv_at hl 5 rfl) ?_
      refine lv_bipush (v := 99) hx hb dX12_needs_44 (by decide) ?_
      refine mt_jn0 hf (∀ (H : Heap) (locs : List Loc) (ls : Array Slot), mt_H E M11 u H → va_S (mt_A E) s.heap H locs → lv_has ls 7 [(0, .ref (E.2.1 147)), (1, .int a1), (4, .int x8), (5, .int x9)] → W p l e (headSpec wsX12_needs ({ frames := 4, cells := 0, slots := 0, locals := 89 } : Room)).room s mid (([.ref (E.2.1 147), .int a1, .int a2] : List Value).toArray) below meth c0 H locs 0 0 (MQ below (mt_Qi E r M' u) (([.ref (E.2.1 147), .int a1, .int a2] : List Value).toArray) s 0 0 (mt_A E)) (F0 mid 87 ls [])) ?_ ?_
      · intro hf H locs ls hH hS hl
        refine lv_aload_n hx hb dX12_needs_87 rfl (lv_at hl 0 rfl) ?_
        refine mt_getr (C := RX12) (T := TX12) (N := 29) hx hb hts hinX12 hown hI hH mt_T147 rfl 4 (by decide) kw0 rfl rfl dX12_needs_88 ?_
        refine lv_iload_n hx hb dX12_needs_91 rfl (lv_at hl 1 rfl) ?_
        refine lv_iload hx hb dX12_needs_92 (lv_at hl 2 rfl) ?_
        refine mt_ciI hf (fun q17 hf => ?_)
        refine mt_iast hx hb hI hH hS mt_T152 q17 dX12_needs_94 (fun H locs hH hS => ?_)
        refine mt_ltI hf (fun M16 eM16 hf => ?_)
        rw [← eM16] at hH
        refine lv_iload hx hb dX12_needs_95 (lv_at hl 3 rfl) ?_
        obtain ⟨i1, i2⟩ := mt_so2 hf
        subst i1
        subst i2
        exact mt_iret hx hb hr hI hH hS hlocks dX12_needs_97
      · intro j14 hj15 hf
        refine lv_icmp_gt (tgt := 87) hx hb dX12_needs_46 (by decide) (fun c18 => ?_) (fun c18 => ?_)
        · have hf := mt_ifT c18 hf
          exact hj15 hf _ _ _ hH hS (lv_sub hl [0, 1, 3, 4] rfl)
        · have hf := mt_ifF c18 hf
          refine lv_iload hx hb dX12_needs_49 (lv_at hl 4 rfl) ?_
          refine lv_if_ge (tgt := 87) hx hb dX12_needs_51 (by decide) (fun c19 => ?_) (fun c19 => ?_)
          · have hf := mt_ifT c19 hf
            exact hj15 hf _ _ _ hH hS (lv_sub hl [0, 1, 3, 4] rfl)
          · have hf := mt_ifF c19 hf
            refine lv_aload_n hx hb dX12_needs_54 rfl (lv_at hl 0 rfl) ?_
            refine mt_getr (C := RX12) (T := TX12) (N := 29) hx hb hts hinX12 hown hI hH mt_T147 rfl 4 (by decide) kw0 rfl rfl dX12_needs_55 ?_
            refine lv_iload_n hx hb dX12_needs_58 rfl (lv_at hl 1 rfl) ?_
            refine lv_iload hx hb dX12_needs_59 (lv_at hl 5 rfl) ?_
            refine mt_ciI hf (fun q21 hf => ?_)
            refine mt_iast hx hb hI hH hS mt_T152 q21 dX12_needs_61 (fun H locs hH hS => ?_)
            refine mt_ltI hf (fun M20 eM20 hf => ?_)
            rw [← eM20] at hH
            refine lv_aload_n hx hb dX12_needs_62 rfl (lv_at hl 0 rfl) ?_
            refine lv_iload_n hx hb dX12_needs_63 rfl (lv_at hl 1 rfl) ?_
            refine lv_iconst (v := 0) hx hb dX12_needs_64 (by decide) ?_
            refine lv_iload_n hx hb dX12_needs_65 rfl (lv_at hl 2 rfl) ?_
            refine mt_b2I hf (fun r23 M24 hg22 hf => ?_)
            refine mt_goi (mt_runV (i := 147) (As := [.int a1, .int (0 : Int32), .int a2]) (rest := []) ⟨hx, hb, hml, hown, hts⟩ hI hH (c_X12_suffices l E a1 (0 : Int32) a2 M20 u _ _ hg22) (cwV 3 hts gX12_needs_X12_suffices rfl rfl rfl (by decide +kernel) ⟨Nat.le_of_ble_eq_true rfl, Nat.le_of_ble_eq_true rfl⟩) mt_T147 rfl rfl hl.1 rfl (Nat.le_of_ble_eq_true rfl) dX12_needs_66 ⟨Nat.zero_le _, Nat.zero_le _⟩) hS (fun H locs hH hS => ?_)
            refine mt_jn1 hf (fun (v25 : Int32) => ∀ (H : Heap) (locs : List Loc) (ls : Array Slot), mt_H E M24 u H → va_S (mt_A E) s.heap H locs → lv_has ls 7 [(0, .ref (E.2.1 147)), (1, .int a1), (2, .int a2), (4, .int x8), (6, .int x10)] → W p l e (headSpec wsX12_needs ({ frames := 4, cells := 0, slots := 0, locals := 89 } : Room)).room s mid (([.ref (E.2.1 147), .int a1, .int a2] : List Value).toArray) below meth c0 H locs 0 0 (MQ below (mt_Qi E r M' u) (([.ref (E.2.1 147), .int a1, .int a2] : List Value).toArray) s 0 0 (mt_A E)) (F0 mid 79 ls [.int v25])) ?_ ?_
            · intro v25 hf H locs ls hH hS hl
              refine lv_istore (lv' := [(5, .int v25), (0, .ref (E.2.1 147)), (1, .int a1), (2, .int a2), (4, .int x8), (6, .int x10)]) hx hb dX12_needs_79 hl (by decide) rfl (fun ls hl => ?_)
              refine mt_ltI hf (fun x28 ex28 hf => ?_)
              refine lv_iinc (v := x28) (lv' := [(6, .int x28), (5, .int v25), (0, .ref (E.2.1 147)), (1, .int a1), (2, .int a2), (4, .int x8)]) hx hb dX12_needs_81 hl (k := 5) rfl (by rw [ex28]; rfl) (by decide) rfl (fun ls hl => ?_)
              refine lv_goto (tgt := 42) hx hb dX12_needs_84 (by decide) ?_
              exact ih13 v25 x28 M24 hf _ _ _ hH hS (lv_sub hl [2, 3, 4, 5, 1, 0] rfl)
            · intro j26 hj27 hf
              refine lv_if_eq (tgt := 77) hx hb dX12_needs_69 (by decide) (fun c29 => ?_) (fun c29 => ?_)
              · have hf := mt_ifT c29 hf
                refine lv_bipush (v := (-9)) hx hb dX12_needs_77 (by decide) ?_
                exact hj27 (-9 : Int32) hf _ _ _ hH hS (lv_sub hl [0, 1, 2, 3, 5] rfl)
              · have hf := mt_ifF c29 hf
                refine lv_iload hx hb dX12_needs_72 (lv_at hl 5 rfl) ?_
                refine lv_goto (tgt := 79) hx hb dX12_needs_74 (by decide) ?_
                exact hj27 x10 hf _ _ _ hH hS (lv_sub hl [0, 1, 2, 3, 5] rfl)
    · have hf := mt_ifF c6 hf
      refine lv_aload_n hx hb dX12_needs_21 rfl (lv_at hl 1 rfl) ?_
      refine lv_iload_n hx hb dX12_needs_22 rfl (lv_at hl 0 rfl) ?_
      refine mt_b2I hf (fun r31 M32 hg30 hf => ?_)
      refine mt_goi (mt_runV (i := 147) (As := [.int v3]) (rest := []) ⟨hx, hb, hml, hown, hts⟩ hI hH (c_X12_no l E v3 M u _ _ hg30) (cwV 1 hts gX12_needs_X12_no rfl rfl rfl (by decide +kernel) ⟨Nat.le_of_ble_eq_true rfl, Nat.le_of_ble_eq_true rfl⟩) mt_T147 rfl rfl hl.1 rfl (Nat.le_of_ble_eq_true rfl) dX12_needs_23 ⟨Nat.zero_le _, Nat.zero_le _⟩) hS (fun H locs hH hS => ?_)
      obtain ⟨i1, i2⟩ := mt_so2 hf
      subst i1
      subst i2
      exact mt_iret hx hb hr hI hH hS hlocks dX12_needs_26
  · intro j4 hj5 hf
    refine lv_if_ne (tgt := 12) hx hb dX12_needs_5 (by decide) (fun c33 => ?_) (fun c33 => ?_)
    · have hf := mt_ifF c33 hf
      refine lv_iload_n hx hb dX12_needs_12 rfl (lv_at hl 2 rfl) ?_
      refine mt_b1I hf (fun r35 hg34 hf => ?_)
      refine mt_goi (mt_runS (As := [.int a2]) (rest := []) ⟨hx, hb, hml, hown, hts⟩ hI hH (c_X12_notMonth l E a2 M u _ hg34) (va_cwS 1 hts gX12_needs_X12_notMonth rfl rfl rfl (by decide +kernel) ⟨Nat.le_of_ble_eq_true rfl, Nat.le_of_ble_eq_true rfl⟩) rfl hl.1 rfl (Nat.le_of_ble_eq_true rfl) dX12_needs_13 ⟨Nat.zero_le _, Nat.zero_le _⟩) hS (fun H locs hH hS => ?_)
      exact hj5 r35 hf _ _ _ hH hS (lv_sub hl [0, 1, 2] rfl)
    · have hf := mt_ifT c33 hf
      refine lv_iconst (v := (-1)) hx hb dX12_needs_8 (by decide) ?_
      refine lv_goto (tgt := 16) hx hb dX12_needs_9 (by decide) ?_
      exact hj5 (-1 : Int32) hf _ _ _ hH hS (lv_sub hl [0, 1, 2] rfl)
set_option maxHeartbeats 4000000 in
set_option maxRecDepth 100000 in
theorem c_X12_isWasted (l : Launch) (E : mt_E) (a1 : Int32) (a2 : Int32) (a3 : Int32) (M : mt_M) (u : mt_U) (r : Int32) (M' : mt_M) (hf : f_X12_isWasted a1 a2 a3 M = some (r, M')) : Met l yX12_isWasted wsX12_isWasted ({ frames := 3, cells := 0, slots := 0, locals := 64 } : Room) (mt_P E [.ref (E.2.1 147), .int a1, .int a2, .int a3] M u) (mt_Qi E r M' u) 0 0 (mt_A E) := by
  refine Met.ofW (cc := cX12_isWasted) (maxL := 6) (ret := (some .boolean)) (by decide) rfl ?_
  intro p e s mid args below meth c0 s₁ B hml hv
  obtain ⟨rfl, hI, hH⟩ := hv
  have hx := B.exec
  have hb := B.bytes
  have hr := B.returns
  have hts := atoms_spec (ws := wsX12_isWasted) B.pre
  have hown : s.vm.findClass RX12 = some mid.cls := findClass_of_methodNamed B.named
  have hlocks := B.notSynchronized
  have hS : va_S (mt_A E) s.heap s.heap [] := va_S.rf
  have hl := lv_entry ([.ref (E.2.1 147), .int a1, .int a2, .int a3]) (n := 6) (Nat.le_of_ble_eq_true rfl)
  rw [lg_entry_eq]
  generalize (lg_sl ([.ref (E.2.1 147), .int a1, .int a2, .int a3]) ++ List.replicate (6 - (lg_sl ([.ref (E.2.1 147), .int a1, .int a2, .int a3])).length) Slot.unset).toArray = ls at hl ⊢
  have hl : lv_has ls 6 [(0, .ref (E.2.1 147)), (1, .int a1), (2, .int a2), (3, .int a3)] := hl
  unfold f_X12_isWasted at hf
  have kw0 := hts (.fieldLink RX12 31 "MilkTwiceModel" "sums" "[I") (List.mem_of_getElem? (i := 1) rfl)
  have hinX12 : ∀ w ∈ u_ws RX12 TX12 29, w ∈ wsX12_isWasted := fun w h => List.mem_cons_of_mem _ (List.mem_append_right _ h)
  refine lv_aload_n hx hb dX12_isWasted_0 rfl (lv_at hl 0 rfl) ?_
  refine mt_b1I hf (fun M2 hg1 hf => ?_)
  refine mt_gov (mt_runV (i := 147) (As := []) (rest := []) ⟨hx, hb, hml, hown, hts⟩ hI hH (c_X12_thinks l E M u _ hg1) (cwV 0 hts gX12_isWasted_X12_thinks rfl rfl rfl (by decide +kernel) ⟨Nat.le_of_ble_eq_true rfl, Nat.le_of_ble_eq_true rfl⟩) mt_T147 rfl rfl hl.1 rfl (Nat.le_of_ble_eq_true rfl) dX12_isWasted_1 ⟨Nat.zero_le _, Nat.zero_le _⟩) hS (fun H locs hH hS => ?_)
  refine lv_aload_n hx hb dX12_isWasted_4 rfl (lv_at hl 0 rfl) ?_
  refine mt_getr (C := RX12) (T := TX12) (N := 29) hx hb hts hinX12 hown hI hH mt_T147 rfl 7 (by decide) kw0 rfl rfl dX12_isWasted_5 ?_
  refine lv_iconst (v := 2) hx hb dX12_isWasted_8 (by decide) ?_
  refine mt_iald hx hb hI hH mt_T155 (mt_vl (by decide)) dX12_isWasted_9 ?_
  refine mt_lti hf (fun x3 ex3 hf => ?_)
  refine lv_istore (lv' := [(4, .int x3), (0, .ref (E.2.1 147)), (1, .int a1), (2, .int a2), (3, .int a3)]) hx hb dX12_isWasted_10 hl (by decide) rfl (fun ls hl => ?_)
  refine lv_iconst (v := 0) hx hb dX12_isWasted_12 (by decide) ?_
  refine lv_istore (lv' := [(5, .int (0 : Int32)), (4, .int x3), (0, .ref (E.2.1 147)), (1, .int a1), (2, .int a2), (3, .int a3)]) hx hb dX12_isWasted_13 hl (by decide) rfl (fun ls hl => ?_)
  refine mt_lpI2 hf (fun (x4 : Int32) (M5 : mt_M) => ∀ (H : Heap) (locs : List Loc) (ls : Array Slot), mt_H E M5 u H → va_S (mt_A E) s.heap H locs → lv_has ls 6 [(0, .ref (E.2.1 147)), (1, .int a1), (2, .int a2), (3, .int a3), (4, .int x3), (5, .int x4)] → W p l e (headSpec wsX12_isWasted ({ frames := 3, cells := 0, slots := 0, locals := 64 } : Room)).room s mid (([.ref (E.2.1 147), .int a1, .int a2, .int a3] : List Value).toArray) below meth c0 H locs 0 0 (MQ below (mt_Qi E r M' u) (([.ref (E.2.1 147), .int a1, .int a2, .int a3] : List Value).toArray) s 0 0 (mt_A E)) (F0 mid 15 ls [])) ?_ _ _ _ hH hS (lv_sub hl [2, 3, 4, 5, 1, 0] rfl)
  intro k6 ih7 x4 M5 hf H locs ls hH hS hl
  refine lv_iload hx hb dX12_isWasted_15 (lv_at hl 5 rfl) ?_
  refine lv_iload_n hx hb dX12_isWasted_17 rfl (lv_at hl 2 rfl) ?_
  refine lv_icmp_ge (tgt := 32) hx hb dX12_isWasted_18 (by decide) (fun c8 => ?_) (fun c8 => ?_)
  · have hf := mt_ifT c8 hf
    refine lv_iconst (v := 0) hx hb dX12_isWasted_32 (by decide) ?_
    refine lv_istore (lv' := [(5, .int (0 : Int32)), (0, .ref (E.2.1 147)), (1, .int a1), (2, .int a2), (3, .int a3), (4, .int x3)]) hx hb dX12_isWasted_33 hl (by decide) rfl (fun ls hl => ?_)
    refine mt_lpI2 hf (fun (x9 : Int32) (M10 : mt_M) => ∀ (H : Heap) (locs : List Loc) (ls : Array Slot), mt_H E M10 u H → va_S (mt_A E) s.heap H locs → lv_has ls 6 [(0, .ref (E.2.1 147)), (1, .int a1), (3, .int a3), (4, .int x3), (5, .int x9)] → W p l e (headSpec wsX12_isWasted ({ frames := 3, cells := 0, slots := 0, locals := 64 } : Room)).room s mid (([.ref (E.2.1 147), .int a1, .int a2, .int a3] : List Value).toArray) below meth c0 H locs 0 0 (MQ below (mt_Qi E r M' u) (([.ref (E.2.1 147), .int a1, .int a2, .int a3] : List Value).toArray) s 0 0 (mt_A E)) (F0 mid 35 ls [])) ?_ _ _ _ hH hS (lv_sub hl [1, 2, 4, 5, 0] rfl)
    intro k11 ih12 x9 M10 hf H locs ls hH hS hl
    refine lv_iload hx hb dX12_isWasted_35 (lv_at hl 4 rfl) ?_
    refine lv_iload_n hx hb dX12_isWasted_37 rfl (lv_at hl 2 rfl) ?_
    refine lv_icmp_ge (tgt := 53) hx hb dX12_isWasted_38 (by decide) (fun c13 => ?_) (fun c13 => ?_)
    · have hf := mt_ifT c13 hf
      refine lv_aload_n hx hb dX12_isWasted_53 rfl (lv_at hl 0 rfl) ?_
      refine mt_getr (C := RX12) (T := TX12) (N := 29) hx hb hts hinX12 hown hI hH mt_T147 rfl 7 (by decide) kw0 rfl rfl dX12_isWasted_54 ?_
      refine lv_iconst (v := 2) hx hb dX12_isWasted_57 (by decide) ?_
      refine mt_iald hx hb hI hH mt_T155 (mt_vl (by decide)) dX12_isWasted_58 ?_
      refine lv_iload hx hb dX12_isWasted_59 (lv_at hl 3 rfl) ?_
      refine mt_jn1 hf (fun (v14 : Int32) => ∀ (H : Heap) (locs : List Loc) (ls : Array Slot), mt_H E M10 u H → va_S (mt_A E) s.heap H locs → lv_has ls 6 [(0, .ref (E.2.1 147))] → W p l e (headSpec wsX12_isWasted ({ frames := 3, cells := 0, slots := 0, locals := 64 } : Room)).room s mid (([.ref (E.2.1 147), .int a1, .int a2, .int a3] : List Value).toArray) below meth c0 H locs 0 0 (MQ below (mt_Qi E r M' u) (([.ref (E.2.1 147), .int a1, .int a2, .int a3] : List Value).toArray) s 0 0 (mt_A E)) (F0 mid 69 ls [.int v14])) ?_ ?_
      · intro v14 hf H locs ls hH hS hl
        refine lv_istore (lv' := [(5, .int v14), (0, .ref (E.2.1 147))]) hx hb dX12_isWasted_69 hl (by decide) rfl (fun ls hl => ?_)
        refine lv_aload_n hx hb dX12_isWasted_71 rfl (lv_at hl 1 rfl) ?_
        refine mt_b1I hf (fun M18 hg17 hf => ?_)
        refine mt_gov (mt_runV (i := 147) (As := []) (rest := []) ⟨hx, hb, hml, hown, hts⟩ hI hH (c_X12_forgets l E M10 u _ hg17) (cwV 0 hts gX12_isWasted_X12_forgets rfl rfl rfl (by decide +kernel) ⟨Nat.le_of_ble_eq_true rfl, Nat.le_of_ble_eq_true rfl⟩) mt_T147 rfl rfl hl.1 rfl (Nat.le_of_ble_eq_true rfl) dX12_isWasted_72 ⟨Nat.zero_le _, Nat.zero_le _⟩) hS (fun H locs hH hS => ?_)
        refine lv_iload hx hb dX12_isWasted_75 (lv_at hl 0 rfl) ?_
        refine mt_ckI hf (fun q19 hf => ?_)
        obtain ⟨i1, i2⟩ := mt_so2 hf
        subst i1
        subst i2
        exact mt_zret hx hb hr hI hH hS q19 hlocks dX12_isWasted_77
      · intro j15 hj16 hf
        refine lv_icmp_le (tgt := 68) hx hb dX12_isWasted_61 (by decide) (fun c20 => ?_) (fun c20 => ?_)
        · have hf := mt_ifT c20 hf
          refine lv_iconst (v := 0) hx hb dX12_isWasted_68 (by decide) ?_
          exact hj16 (0 : Int32) hf _ _ _ hH hS (lv_sub hl [0] rfl)
        · have hf := mt_ifF c20 hf
          refine lv_iconst (v := 1) hx hb dX12_isWasted_64 (by decide) ?_
          refine lv_goto (tgt := 69) hx hb dX12_isWasted_65 (by decide) ?_
          exact hj16 (1 : Int32) hf _ _ _ hH hS (lv_sub hl [0] rfl)
    · have hf := mt_ifF c13 hf
      refine lv_aload_n hx hb dX12_isWasted_41 rfl (lv_at hl 0 rfl) ?_
      refine lv_iload_n hx hb dX12_isWasted_42 rfl (lv_at hl 1 rfl) ?_
      refine mt_b2I hf (fun r22 M23 hg21 hf => ?_)
      refine mt_goi (mt_runV (i := 147) (As := [.int a1]) (rest := []) ⟨hx, hb, hml, hown, hts⟩ hI hH (c_X12_usesOf l E a1 M10 u _ _ hg21) (cwV 1 hts gX12_isWasted_X12_usesOf rfl rfl rfl (by decide +kernel) ⟨Nat.le_of_ble_eq_true rfl, Nat.le_of_ble_eq_true rfl⟩) mt_T147 rfl rfl hl.1 rfl (Nat.le_of_ble_eq_true rfl) dX12_isWasted_43 ⟨Nat.zero_le _, Nat.zero_le _⟩) hS (fun H locs hH hS => ?_)
      refine lv_pop hx hb dX12_isWasted_46 rfl ?_
      refine mt_ltI hf (fun x24 ex24 hf => ?_)
      refine lv_iinc (v := x24) (lv' := [(5, .int x24), (0, .ref (E.2.1 147)), (1, .int a1), (3, .int a3), (4, .int x3)]) hx hb dX12_isWasted_47 hl (k := 4) rfl (by rw [ex24]; rfl) (by decide) rfl (fun ls hl => ?_)
      refine lv_goto (tgt := 35) hx hb dX12_isWasted_50 (by decide) ?_
      exact ih12 x24 M23 hf _ _ _ hH hS (lv_sub hl [1, 2, 3, 4, 0] rfl)
  · have hf := mt_ifF c8 hf
    refine lv_aload_n hx hb dX12_isWasted_21 rfl (lv_at hl 0 rfl) ?_
    refine lv_iload_n hx hb dX12_isWasted_22 rfl (lv_at hl 1 rfl) ?_
    refine mt_b1I hf (fun M26 hg25 hf => ?_)
    refine mt_gov (mt_runV (i := 147) (As := [.int a1]) (rest := []) ⟨hx, hb, hml, hown, hts⟩ hI hH (c_X12_gets l E a1 M5 u _ hg25) (cwV 1 hts gX12_isWasted_X12_gets rfl rfl rfl (by decide +kernel) ⟨Nat.le_of_ble_eq_true rfl, Nat.le_of_ble_eq_true rfl⟩) mt_T147 rfl rfl hl.1 rfl (Nat.le_of_ble_eq_true rfl) dX12_isWasted_23 ⟨Nat.zero_le _, Nat.zero_le _⟩) hS (fun H locs hH hS => ?_)
    refine mt_ltI hf (fun x27 ex27 hf => ?_)
    refine lv_iinc (v := x27) (lv' := [(5, .int x27), (0, .ref (E.2.1 147)), (1, .int a1), (2, .int a2), (3, .int a3), (4, .int x3)]) hx hb dX12_isWasted_26 hl (k := 5) rfl (by rw [ex27]; rfl) (by decide) rfl (fun ls hl => ?_)
    refine lv_goto (tgt := 15) hx hb dX12_isWasted_29 (by decide) ?_
    exact ih7 x27 M26 hf _ _ _ hH hS (lv_sub hl [1, 2, 3, 4, 5, 0] rfl)

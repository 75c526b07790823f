/-! THE WALKS, laid by program: each method returns what its pure function says, and leaves the memory so -/
set_option maxHeartbeats 4000000 in
set_option maxRecDepth 100000 in
theorem c_X11_restore (l : Launch) (E : mt_E)  (M : mt_M) (u : mt_U) (r : Int32) (M' : mt_M) (hf : f_X11_restore M = some (r, M')) : Met l yX11_restore wsX11_restore ({ frames := 3, cells := 0, slots := 0, locals := 68 } : Room) (mt_P E [.ref (E.2.1 0)] M u) (mt_Qi E r M' u) 0 0 (mt_A E) := by
  refine Met.ofW (cc := cX11_restore) (maxL := 1) (ret := (some .int)) (by decide) rfl ?_
  intro p e s mid args below meth c0 s₁ B hml hv
  obtain ⟨rfl, hI, hH⟩ := hv
  have hx := B.exec
  have hb := B.bytes
  have hr := B.returns
  have hts := atoms_spec (ws := wsX11_restore) B.pre
  have hown : s.vm.findClass RX11 = some mid.cls := findClass_of_methodNamed B.named
  have hlocks := B.notSynchronized
  have hS : va_S (mt_A E) s.heap s.heap [] := va_S.rf
  have hl := lv_entry ([.ref (E.2.1 0)]) (n := 1) (Nat.le_of_ble_eq_true rfl)
  rw [lg_entry_eq]
  generalize (lg_sl ([.ref (E.2.1 0)]) ++ List.replicate (1 - (lg_sl ([.ref (E.2.1 0)])).length) Slot.unset).toArray = ls at hl ⊢
  have hl : lv_has ls 1 [(0, .ref (E.2.1 0))] := hl
  unfold f_X11_restore at hf
  have kw0 := hts (.fieldLink RX11 341 "MilkTwice" "pictured" "Z") (List.mem_of_getElem? (i := 1) rfl)
  have kw1 := hts (.fieldLink RX11 39 "MilkTwice" "house" "LMilkTwice$House;") (List.mem_of_getElem? (i := 2) rfl)
  have kw2 := hts (.fieldLink RX11 46 "MilkTwice" "picture" "LMilkTwice$House;") (List.mem_of_getElem? (i := 3) rfl)
  have kw3 := hts (.fieldLink RX11 52 "MilkTwice" "history" "LMilkTwice$History;") (List.mem_of_getElem? (i := 4) rfl)
  have hinX11 : ∀ w ∈ u_ws RX11 TX11 10, w ∈ wsX11_restore := fun w h => List.mem_cons_of_mem _ (List.mem_append_left _ (List.mem_append_left _ (List.mem_append_left _ (List.mem_append_right _ h))))
  have hinX4 : ∀ w ∈ u_ws RX4 TX4 6, w ∈ wsX11_restore := fun w h => List.mem_cons_of_mem _ (List.mem_append_left _ (List.mem_append_left _ (List.mem_append_right _ h)))
  refine lv_aload_n hx hb dX11_restore_0 rfl (lv_at hl 0 rfl) ?_
  refine mt_geti (C := RX11) (T := TX11) (N := 10) hx hb hts hinX11 hown hI hH mt_T0 rfl 3 (by decide) kw0 rfl rfl dX11_restore_1 ?_
  refine lv_if_ne (tgt := 14) hx hb dX11_restore_4 (by decide) (fun c1 => ?_) (fun c1 => ?_)
  · have hf := mt_ifF c1 hf
    refine lv_aload_n hx hb dX11_restore_14 rfl (lv_at hl 0 rfl) ?_
    refine mt_getr (C := RX11) (T := TX11) (N := 10) hx hb hts hinX11 hown hI hH mt_T0 rfl 0 (by decide) kw1 rfl rfl dX11_restore_15 ?_
    refine lv_aload_n hx hb dX11_restore_18 rfl (lv_at hl 0 rfl) ?_
    refine mt_getr (C := RX11) (T := TX11) (N := 10) hx hb hts hinX11 hown hI hH mt_T0 rfl 2 (by decide) kw2 rfl rfl dX11_restore_19 ?_
    refine mt_b1I hf (fun M3 hg2 hf => ?_)
    refine mt_gov (mt_runV (i := 10) (As := [.ref (E.2.1 32)]) (rest := []) ⟨hx, hb, hml, hown, hts⟩ hI hH (c_X4_become l E 10 (by decide) 32 (by decide) M u _ hg2) (cwV 1 hts gX11_restore_X4_become rfl rfl rfl (by decide +kernel) ⟨Nat.le_of_ble_eq_true rfl, Nat.le_of_ble_eq_true rfl⟩) mt_T10 rfl rfl hl.1 rfl (Nat.le_of_ble_eq_true rfl) dX11_restore_22 ⟨Nat.zero_le _, Nat.zero_le _⟩) hS (fun H locs hH hS => ?_)
    refine lv_aload_n hx hb dX11_restore_25 rfl (lv_at hl 0 rfl) ?_
    refine mt_getr (C := RX11) (T := TX11) (N := 10) hx hb hts hinX11 hown hI hH mt_T0 rfl 4 (by decide) kw3 rfl rfl dX11_restore_26 ?_
    refine mt_b1I hf (fun M5 hg4 hf => ?_)
    refine mt_gov (mt_runV (i := 43) (As := []) (rest := []) ⟨hx, hb, hml, hown, hts⟩ hI hH (c_X3_forget l E M3 u _ hg4) (cwV 0 hts gX11_restore_X3_forget rfl rfl rfl (by decide +kernel) ⟨Nat.le_of_ble_eq_true rfl, Nat.le_of_ble_eq_true rfl⟩) mt_T43 rfl rfl hl.1 rfl (Nat.le_of_ble_eq_true rfl) dX11_restore_29 ⟨Nat.zero_le _, Nat.zero_le _⟩) hS (fun H locs hH hS => ?_)
    refine lv_aload_n hx hb dX11_restore_32 rfl (lv_at hl 0 rfl) ?_
    refine mt_getr (C := RX11) (T := TX11) (N := 10) hx hb hts hinX11 hown hI hH mt_T0 rfl 0 (by decide) kw1 rfl rfl dX11_restore_33 ?_
    refine mt_getiN (C := RX4) (T := TX4) (N := 6) hx hb hts hinX4 hown hI hH mt_T10 rfl 3 (by decide) (List.mem_of_getElem? (i := 12) rfl) rfl rfl dX11_restore_36 ?_
    obtain ⟨i1, i2⟩ := mt_so2 hf
    subst i1
    subst i2
    exact mt_iret hx hb hr hI hH hS hlocks dX11_restore_39
  · have hf := mt_ifT c1 hf
    refine lv_aload_n hx hb dX11_restore_7 rfl (lv_at hl 0 rfl) ?_
    refine lv_bipush (v := (-3)) hx hb dX11_restore_8 (by decide) ?_
    refine mt_b2I hf (fun r7 M8 hg6 hf => ?_)
    refine mt_goi (mt_runV (i := 0) (As := [.int (-3 : Int32)]) (rest := []) ⟨hx, hb, hml, hown, hts⟩ hI hH (c_X11_refuse l E (-3 : Int32) M u _ _ hg6) (cwV 1 hts gX11_restore_X11_refuse rfl rfl rfl (by decide +kernel) ⟨Nat.le_of_ble_eq_true rfl, Nat.le_of_ble_eq_true rfl⟩) mt_T0 rfl rfl hl.1 rfl (Nat.le_of_ble_eq_true rfl) dX11_restore_10 ⟨Nat.zero_le _, Nat.zero_le _⟩) hS (fun H locs hH hS => ?_)
    obtain ⟨i1, i2⟩ := mt_so2 hf
    subst i1
    subst i2
    exact mt_iret hx hb hr hI hH hS hlocks dX11_restore_13
set_option maxHeartbeats 4000000 in
set_option maxRecDepth 100000 in
theorem c_X11_count (l : Launch) (E : mt_E) (a1 : Int32) (M : mt_M) (u : mt_U) (r : Int32) (hf : f_X11_count a1 M = some (r)) : Met l yX11_count wsX11_count ({ frames := 2, cells := 0, slots := 0, locals := 42 } : Room) (mt_P E [.ref (E.2.1 0), .int a1] M u) (mt_Qi E r M u) 0 0 (mt_A E) := by
  refine Met.ofW (cc := cX11_count) (maxL := 2) (ret := (some .int)) (by decide) rfl ?_
  intro p e s mid args below meth c0 s₁ B hml hv
  obtain ⟨rfl, hI, hH⟩ := hv
  have hx := B.exec
  have hb := B.bytes
  have hr := B.returns
  have hts := atoms_spec (ws := wsX11_count) B.pre
  have hown : s.vm.findClass RX11 = some mid.cls := findClass_of_methodNamed B.named
  have hlocks := B.notSynchronized
  have hS : va_S (mt_A E) s.heap s.heap [] := va_S.rf
  have hl := lv_entry ([.ref (E.2.1 0), .int a1]) (n := 2) (Nat.le_of_ble_eq_true rfl)
  rw [lg_entry_eq]
  generalize (lg_sl ([.ref (E.2.1 0), .int a1]) ++ List.replicate (2 - (lg_sl ([.ref (E.2.1 0), .int a1])).length) Slot.unset).toArray = ls at hl ⊢
  have hl : lv_has ls 2 [(0, .ref (E.2.1 0)), (1, .int a1)] := hl
  unfold f_X11_count at hf
  have kw0 := hts (.fieldLink RX11 39 "MilkTwice" "house" "LMilkTwice$House;") (List.mem_of_getElem? (i := 2) rfl)
  have kw1 := hts (.fieldLink RX11 68 "MilkTwice" "letters" "LMilkTwice$Letters;") (List.mem_of_getElem? (i := 3) rfl)
  have kw2 := hts (.fieldLink RX11 329 "MilkTwice" "rowLength" "I") (List.mem_of_getElem? (i := 4) rfl)
  have kw3 := hts (.fieldLink RX11 52 "MilkTwice" "history" "LMilkTwice$History;") (List.mem_of_getElem? (i := 5) rfl)
  have kw4 := hts (.fieldLink RX11 13 "MilkTwice" "refusals" "[I") (List.mem_of_getElem? (i := 1) rfl)
  have hinX11 : ∀ w ∈ u_ws RX11 TX11 10, w ∈ wsX11_count := fun w h => List.mem_cons_of_mem _ (List.mem_append_left _ (List.mem_append_left _ (List.mem_append_left _ (List.mem_append_left _ (List.mem_append_right _ h)))))
  have hinX4 : ∀ w ∈ u_ws RX4 TX4 6, w ∈ wsX11_count := fun w h => List.mem_cons_of_mem _ (List.mem_append_left _ (List.mem_append_left _ (List.mem_append_left _ (List.mem_append_right _ h))))
  have hinX0 : ∀ w ∈ u_ws RX0 TX0 12, w ∈ wsX11_count := fun w h => List.mem_cons_of_mem _ (List.mem_append_left _ (List.mem_append_left _ (List.mem_append_right _ h)))
  have hinX7 : ∀ w ∈ u_ws RX7 TX7 2, w ∈ wsX11_count := fun w h => List.mem_cons_of_mem _ (List.mem_append_left _ (List.mem_append_right _ h))
  have hinX3 : ∀ w ∈ u_ws RX3 TX3 3, w ∈ wsX11_count := fun w h => List.mem_cons_of_mem _ (List.mem_append_right _ h)
  refine lv_iload_n hx hb dX11_count_0 rfl (lv_at hl 1 rfl) ?_
  refine lv_bipush (v := 11) hx hb dX11_count_1 (by decide) ?_
  refine mt_jn0 hf (∀ (H : Heap) (locs : List Loc) (ls : Array Slot), mt_H E M u H → va_S (mt_A E) s.heap H locs → lv_has ls 2 [(0, .ref (E.2.1 0)), (1, .int a1)] → W p l e (headSpec wsX11_count ({ frames := 2, cells := 0, slots := 0, locals := 42 } : Room)).room s mid (([.ref (E.2.1 0), .int a1] : List Value).toArray) below meth c0 H locs 0 0 (MQ below (mt_Qi E r M u) (([.ref (E.2.1 0), .int a1] : List Value).toArray) s 0 0 (mt_A E)) (F0 mid 22 ls [])) ?_ ?_
  · intro hf H locs ls hH hS hl
    refine lv_iload_n hx hb dX11_count_22 rfl (lv_at hl 1 rfl) ?_
    by_cases c3 : a1 = (0 : Int32)
    · have hf := mt_ifT c3 hf
      refine lv_tableIn (off := 85) (tgt := 108) hx hb dX11_count_23 (by rw [c3]; decide) (by rw [c3]; decide) (by rw [c3]; rfl) (by decide) ?_
      refine lv_aload_n hx hb dX11_count_108 rfl (lv_at hl 0 rfl) ?_
      refine mt_getr (C := RX11) (T := TX11) (N := 10) hx hb hts hinX11 hown hI hH mt_T0 rfl 0 (by decide) kw0 rfl rfl dX11_count_109 ?_
      refine mt_getrN (C := RX4) (T := TX4) (N := 6) hx hb hts hinX4 hown hI hH mt_T10 rfl 0 (by decide) (List.mem_of_getElem? (i := 10) rfl) rfl rfl dX11_count_112 ?_
      refine mt_getiN (C := RX0) (T := TX0) (N := 12) hx hb hts hinX0 hown hI hH mt_T13 rfl 8 (by decide) (List.mem_of_getElem? (i := 2) rfl) rfl rfl dX11_count_115 ?_
      have i1 := mt_so1 hf
      subst i1
      exact mt_iret hx hb hr hI hH hS hlocks dX11_count_118
    · have hf := mt_ifF c3 hf
      by_cases c4 : a1 = (1 : Int32)
      · have hf := mt_ifT c4 hf
        refine lv_tableIn (off := 96) (tgt := 119) hx hb dX11_count_23 (by rw [c4]; decide) (by rw [c4]; decide) (by rw [c4]; rfl) (by decide) ?_
        refine lv_aload_n hx hb dX11_count_119 rfl (lv_at hl 0 rfl) ?_
        refine mt_getr (C := RX11) (T := TX11) (N := 10) hx hb hts hinX11 hown hI hH mt_T0 rfl 0 (by decide) kw0 rfl rfl dX11_count_120 ?_
        refine mt_getiN (C := RX4) (T := TX4) (N := 6) hx hb hts hinX4 hown hI hH mt_T10 rfl 3 (by decide) (List.mem_of_getElem? (i := 12) rfl) rfl rfl dX11_count_123 ?_
        have i1 := mt_so1 hf
        subst i1
        exact mt_iret hx hb hr hI hH hS hlocks dX11_count_126
      · have hf := mt_ifF c4 hf
        by_cases c5 : a1 = (2 : Int32)
        · have hf := mt_ifT c5 hf
          refine lv_tableIn (off := 104) (tgt := 127) hx hb dX11_count_23 (by rw [c5]; decide) (by rw [c5]; decide) (by rw [c5]; rfl) (by decide) ?_
          refine lv_aload_n hx hb dX11_count_127 rfl (lv_at hl 0 rfl) ?_
          refine mt_getr (C := RX11) (T := TX11) (N := 10) hx hb hts hinX11 hown hI hH mt_T0 rfl 0 (by decide) kw0 rfl rfl dX11_count_128 ?_
          refine mt_getiN (C := RX4) (T := TX4) (N := 6) hx hb hts hinX4 hown hI hH mt_T10 rfl 4 (by decide) (List.mem_of_getElem? (i := 14) rfl) rfl rfl dX11_count_131 ?_
          have i1 := mt_so1 hf
          subst i1
          exact mt_iret hx hb hr hI hH hS hlocks dX11_count_134
        · have hf := mt_ifF c5 hf
          by_cases c6 : a1 = (3 : Int32)
          · have hf := mt_ifT c6 hf
            refine lv_tableIn (off := 112) (tgt := 135) hx hb dX11_count_23 (by rw [c6]; decide) (by rw [c6]; decide) (by rw [c6]; rfl) (by decide) ?_
            refine lv_aload_n hx hb dX11_count_135 rfl (lv_at hl 0 rfl) ?_
            refine mt_getr (C := RX11) (T := TX11) (N := 10) hx hb hts hinX11 hown hI hH mt_T0 rfl 0 (by decide) kw0 rfl rfl dX11_count_136 ?_
            refine mt_getiN (C := RX4) (T := TX4) (N := 6) hx hb hts hinX4 hown hI hH mt_T10 rfl 5 (by decide) (List.mem_of_getElem? (i := 17) rfl) rfl rfl dX11_count_139 ?_
            have i1 := mt_so1 hf
            subst i1
            exact mt_iret hx hb hr hI hH hS hlocks dX11_count_142
          · have hf := mt_ifF c6 hf
            by_cases c7 : a1 = (4 : Int32)
            · have hf := mt_ifT c7 hf
              refine lv_tableIn (off := 120) (tgt := 143) hx hb dX11_count_23 (by rw [c7]; decide) (by rw [c7]; decide) (by rw [c7]; rfl) (by decide) ?_
              refine lv_aload_n hx hb dX11_count_143 rfl (lv_at hl 0 rfl) ?_
              refine mt_getr (C := RX11) (T := TX11) (N := 10) hx hb hts hinX11 hown hI hH mt_T0 rfl 0 (by decide) kw0 rfl rfl dX11_count_144 ?_
              refine mt_getrN (C := RX4) (T := TX4) (N := 6) hx hb hts hinX4 hown hI hH mt_T10 rfl 0 (by decide) (List.mem_of_getElem? (i := 10) rfl) rfl rfl dX11_count_147 ?_
              refine mt_getiN (C := RX0) (T := TX0) (N := 12) hx hb hts hinX0 hown hI hH mt_T13 rfl 9 (by decide) (List.mem_of_getElem? (i := 3) rfl) rfl rfl dX11_count_150 ?_
              have i1 := mt_so1 hf
              subst i1
              exact mt_iret hx hb hr hI hH hS hlocks dX11_count_153
            · have hf := mt_ifF c7 hf
              by_cases c8 : a1 = (5 : Int32)
              · have hf := mt_ifT c8 hf
                refine lv_tableIn (off := 131) (tgt := 154) hx hb dX11_count_23 (by rw [c8]; decide) (by rw [c8]; decide) (by rw [c8]; rfl) (by decide) ?_
                refine lv_aload_n hx hb dX11_count_154 rfl (lv_at hl 0 rfl) ?_
                refine mt_getr (C := RX11) (T := TX11) (N := 10) hx hb hts hinX11 hown hI hH mt_T0 rfl 0 (by decide) kw0 rfl rfl dX11_count_155 ?_
                refine mt_getrN (C := RX4) (T := TX4) (N := 6) hx hb hts hinX4 hown hI hH mt_T10 rfl 0 (by decide) (List.mem_of_getElem? (i := 10) rfl) rfl rfl dX11_count_158 ?_
                refine mt_getiN (C := RX0) (T := TX0) (N := 12) hx hb hts hinX0 hown hI hH mt_T13 rfl 10 (by decide) (List.mem_of_getElem? (i := 6) rfl) rfl rfl dX11_count_161 ?_
                have i1 := mt_so1 hf
                subst i1
                exact mt_iret hx hb hr hI hH hS hlocks dX11_count_164
              · have hf := mt_ifF c8 hf
                by_cases c9 : a1 = (6 : Int32)
                · have hf := mt_ifT c9 hf
                  refine lv_tableIn (off := 142) (tgt := 165) hx hb dX11_count_23 (by rw [c9]; decide) (by rw [c9]; decide) (by rw [c9]; rfl) (by decide) ?_
                  refine lv_aload_n hx hb dX11_count_165 rfl (lv_at hl 0 rfl) ?_
                  refine mt_getr (C := RX11) (T := TX11) (N := 10) hx hb hts hinX11 hown hI hH mt_T0 rfl 0 (by decide) kw0 rfl rfl dX11_count_166 ?_
                  refine mt_getrN (C := RX4) (T := TX4) (N := 6) hx hb hts hinX4 hown hI hH mt_T10 rfl 0 (by decide) (List.mem_of_getElem? (i := 10) rfl) rfl rfl dX11_count_169 ?_
                  refine mt_getiN (C := RX0) (T := TX0) (N := 12) hx hb hts hinX0 hown hI hH mt_T13 rfl 11 (by decide) (List.mem_of_getElem? (i := 8) rfl) rfl rfl dX11_count_172 ?_
                  have i1 := mt_so1 hf
                  subst i1
                  exact mt_iret hx hb hr hI hH hS hlocks dX11_count_175
                · have hf := mt_ifF c9 hf
                  by_cases c10 : a1 = (7 : Int32)
                  · have hf := mt_ifT c10 hf
                    refine lv_tableIn (off := 153) (tgt := 176) hx hb dX11_count_23 (by rw [c10]; decide) (by rw [c10]; decide) (by rw [c10]; rfl) (by decide) ?_
                    refine lv_aload_n hx hb dX11_count_176 rfl (lv_at hl 0 rfl) ?_
                    refine mt_getr (C := RX11) (T := TX11) (N := 10) hx hb hts hinX11 hown hI hH mt_T0 rfl 0 (by decide) kw0 rfl rfl dX11_count_177 ?_
                    refine mt_getrN (C := RX4) (T := TX4) (N := 6) hx hb hts hinX4 hown hI hH mt_T10 rfl 0 (by decide) (List.mem_of_getElem? (i := 10) rfl) rfl rfl dX11_count_180 ?_
                    refine mt_b1I hf (fun r12 hg11 hf => ?_)
                    refine mt_goi (mt_runV (i := 13) (As := []) (rest := []) ⟨hx, hb, hml, hown, hts⟩ hI hH (c_X0_stockOfAll l E 13 (by decide) M u _ hg11) (cwV 0 hts gX11_count_X0_stockOfAll rfl rfl rfl (by decide +kernel) ⟨Nat.le_of_ble_eq_true rfl, Nat.le_of_ble_eq_true rfl⟩) mt_T13 rfl rfl hl.1 rfl (Nat.le_of_ble_eq_true rfl) dX11_count_183 ⟨Nat.zero_le _, Nat.zero_le _⟩) hS (fun H locs hH hS => ?_)
                    have i1 := mt_so1 hf
                    subst i1
                    exact mt_iret hx hb hr hI hH hS hlocks dX11_count_186
                  · have hf := mt_ifF c10 hf
                    by_cases c13 : a1 = (8 : Int32)
                    · have hf := mt_ifT c13 hf
                      refine lv_tableIn (off := 164) (tgt := 187) hx hb dX11_count_23 (by rw [c13]; decide) (by rw [c13]; decide) (by rw [c13]; rfl) (by decide) ?_
                      refine lv_aload_n hx hb dX11_count_187 rfl (lv_at hl 0 rfl) ?_
                      refine mt_getr (C := RX11) (T := TX11) (N := 10) hx hb hts hinX11 hown hI hH mt_T0 rfl 0 (by decide) kw0 rfl rfl dX11_count_188 ?_
                      refine lv_iconst (v := 0) hx hb dX11_count_191 (by decide) ?_
                      refine mt_b1I hf (fun r15 hg14 hf => ?_)
                      refine mt_goi (mt_runV (i := 10) (As := [.int (0 : Int32)]) (rest := []) ⟨hx, hb, hml, hown, hts⟩ hI hH (c_X4_wantedBy l E 10 (by decide) (0 : Int32) M u _ hg14) (cwV 1 hts gX11_count_X4_wantedBy rfl rfl rfl (by decide +kernel) ⟨Nat.le_of_ble_eq_true rfl, Nat.le_of_ble_eq_true rfl⟩) mt_T10 rfl rfl hl.1 rfl (Nat.le_of_ble_eq_true rfl) dX11_count_192 ⟨Nat.zero_le _, Nat.zero_le _⟩) hS (fun H locs hH hS => ?_)
                      refine mt_b1I hf (fun r17 hg16 hf => ?_)
                      refine mt_goi (mt_runS (As := [.int r15]) (rest := []) ⟨hx, hb, hml, hown, hts⟩ hI hH (c_J6_bitCount l E r15 M u _ hg16) (va_cwS 1 hts gX11_count_J6_bitCount_0f7a4 rfl rfl rfl (by decide +kernel) ⟨Nat.le_of_ble_eq_true rfl, Nat.le_of_ble_eq_true rfl⟩) rfl hl.1 rfl (Nat.le_of_ble_eq_true rfl) dX11_count_195 ⟨Nat.zero_le _, Nat.zero_le _⟩) hS (fun H locs hH hS => ?_)
                      refine lv_aload_n hx hb dX11_count_198 rfl (lv_at hl 0 rfl) ?_
                      refine mt_getr (C := RX11) (T := TX11) (N := 10) hx hb hts hinX11 hown hI hH mt_T0 rfl 0 (by decide) kw0 rfl rfl dX11_count_199 ?_
                      refine lv_iconst (v := 1) hx hb dX11_count_202 (by decide) ?_
                      refine mt_b1I hf (fun r19 hg18 hf => ?_)
                      refine mt_goi (mt_runV (i := 10) (As := [.int (1 : Int32)]) (rest := [.int r17]) ⟨hx, hb, hml, hown, hts⟩ hI hH (c_X4_wantedBy l E 10 (by decide) (1 : Int32) M u _ hg18) (cwV 1 hts gX11_count_X4_wantedBy rfl rfl rfl (by decide +kernel) ⟨Nat.le_of_ble_eq_true rfl, Nat.le_of_ble_eq_true rfl⟩) mt_T10 rfl rfl hl.1 rfl (Nat.le_of_ble_eq_true rfl) dX11_count_203 ⟨Nat.zero_le _, Nat.zero_le _⟩) hS (fun H locs hH hS => ?_)
                      refine mt_b1I hf (fun r21 hg20 hf => ?_)
                      refine mt_goi (mt_runS (As := [.int r19]) (rest := [.int r17]) ⟨hx, hb, hml, hown, hts⟩ hI hH (c_J6_bitCount l E r19 M u _ hg20) (va_cwS 1 hts gX11_count_J6_bitCount_0f7a4 rfl rfl rfl (by decide +kernel) ⟨Nat.le_of_ble_eq_true rfl, Nat.le_of_ble_eq_true rfl⟩) rfl hl.1 rfl (Nat.le_of_ble_eq_true rfl) dX11_count_206 ⟨Nat.zero_le _, Nat.zero_le _⟩) hS (fun H locs hH hS => ?_)
                      refine lv_iadd hx hb dX11_count_209 ?_
                      have i1 := mt_so1 hf
                      subst i1
                      exact mt_iret hx hb hr hI hH hS hlocks dX11_count_210
                    · have hf := mt_ifF c13 hf
                      by_cases c22 : a1 = (9 : Int32)
                      · have hf := mt_ifT c22 hf
                        refine lv_tableIn (off := 188) (tgt := 211) hx hb dX11_count_23 (by rw [c22]; decide) (by rw [c22]; decide) (by rw [c22]; rfl) (by decide) ?_
                        refine lv_aload_n hx hb dX11_count_211 rfl (lv_at hl 0 rfl) ?_
                        refine mt_getr (C := RX11) (T := TX11) (N := 10) hx hb hts hinX11 hown hI hH mt_T0 rfl 6 (by decide) kw1 rfl rfl dX11_count_212 ?_
                        refine mt_getiN (C := RX7) (T := TX7) (N := 2) hx hb hts hinX7 hown hI hH mt_T145 rfl 1 (by decide) (List.mem_of_getElem? (i := 19) rfl) rfl rfl dX11_count_215 ?_
                        have i1 := mt_so1 hf
                        subst i1
                        exact mt_iret hx hb hr hI hH hS hlocks dX11_count_218
                      · have hf := mt_ifF c22 hf
                        by_cases c23 : a1 = (10 : Int32)
                        · have hf := mt_ifT c23 hf
                          refine lv_tableIn (off := 196) (tgt := 219) hx hb dX11_count_23 (by rw [c23]; decide) (by rw [c23]; decide) (by rw [c23]; rfl) (by decide) ?_
                          refine lv_aload_n hx hb dX11_count_219 rfl (lv_at hl 0 rfl) ?_
                          refine mt_geti (C := RX11) (T := TX11) (N := 10) hx hb hts hinX11 hown hI hH mt_T0 rfl 8 (by decide) kw2 rfl rfl dX11_count_220 ?_
                          have i1 := mt_so1 hf
                          subst i1
                          exact mt_iret hx hb hr hI hH hS hlocks dX11_count_223
                        · have hf := mt_ifF c23 hf
                          by_cases c24 : a1 = (11 : Int32)
                          · have hf := mt_ifT c24 hf
                            refine lv_tableIn (off := 209) (tgt := 232) hx hb dX11_count_23 (by rw [c24]; decide) (by rw [c24]; decide) (by rw [c24]; rfl) (by decide) ?_
                            refine lv_bipush (v := (-9)) hx hb dX11_count_232 (by decide) ?_
                            have i1 := mt_so1 hf
                            subst i1
                            exact mt_iret hx hb hr hI hH hS hlocks dX11_count_234
                          · have hf := mt_ifF c24 hf
                            by_cases c25 : a1 = (12 : Int32)
                            · have hf := mt_ifT c25 hf
                              refine lv_tableIn (off := 209) (tgt := 232) hx hb dX11_count_23 (by rw [c25]; decide) (by rw [c25]; decide) (by rw [c25]; rfl) (by decide) ?_
                              refine lv_bipush (v := (-9)) hx hb dX11_count_232 (by decide) ?_
                              have i1 := mt_so1 hf
                              subst i1
                              exact mt_iret hx hb hr hI hH hS hlocks dX11_count_234
                            · have hf := mt_ifF c25 hf
                              by_cases c26 : a1 = (13 : Int32)
                              · have hf := mt_ifT c26 hf
                                refine lv_tableIn (off := 209) (tgt := 232) hx hb dX11_count_23 (by rw [c26]; decide) (by rw [c26]; decide) (by rw [c26]; rfl) (by decide) ?_
                                refine lv_bipush (v := (-9)) hx hb dX11_count_232 (by decide) ?_
                                have i1 := mt_so1 hf
                                subst i1
                                exact mt_iret hx hb hr hI hH hS hlocks dX11_count_234
                              · have hf := mt_ifF c26 hf
                                by_cases c27 : a1 = (14 : Int32)
                                · have hf := mt_ifT c27 hf
                                  refine lv_tableIn (off := 209) (tgt := 232) hx hb dX11_count_23 (by rw [c27]; decide) (by rw [c27]; decide) (by rw [c27]; rfl) (by decide) ?_
                                  refine lv_bipush (v := (-9)) hx hb dX11_count_232 (by decide) ?_
                                  have i1 := mt_so1 hf
                                  subst i1
                                  exact mt_iret hx hb hr hI hH hS hlocks dX11_count_234
                                · have hf := mt_ifF c27 hf
                                  by_cases c28 : a1 = (15 : Int32)
                                  · have hf := mt_ifT c28 hf
                                    refine lv_tableIn (off := 209) (tgt := 232) hx hb dX11_count_23 (by rw [c28]; decide) (by rw [c28]; decide) (by rw [c28]; rfl) (by decide) ?_
                                    refine lv_bipush (v := (-9)) hx hb dX11_count_232 (by decide) ?_
                                    have i1 := mt_so1 hf
                                    subst i1
                                    exact mt_iret hx hb hr hI hH hS hlocks dX11_count_234
                                  · have hf := mt_ifF c28 hf
                                    by_cases c29 : a1 = (16 : Int32)
                                    · have hf := mt_ifT c29 hf
                                      refine lv_tableIn (off := 209) (tgt := 232) hx hb dX11_count_23 (by rw [c29]; decide) (by rw [c29]; decide) (by rw [c29]; rfl) (by decide) ?_
                                      refine lv_bipush (v := (-9)) hx hb dX11_count_232 (by decide) ?_
                                      have i1 := mt_so1 hf
                                      subst i1
                                      exact mt_iret hx hb hr hI hH hS hlocks dX11_count_234
                                    · have hf := mt_ifF c29 hf
                                      by_cases c30 : a1 = (17 : Int32)
                                      · have hf := mt_ifT c30 hf
                                        refine lv_tableIn (off := 201) (tgt := 224) hx hb dX11_count_23 (by rw [c30]; decide) (by rw [c30]; decide) (by rw [c30]; rfl) (by decide) ?_
                                        refine lv_aload_n hx hb dX11_count_224 rfl (lv_at hl 0 rfl) ?_
                                        refine mt_getr (C := RX11) (T := TX11) (N := 10) hx hb hts hinX11 hown hI hH mt_T0 rfl 4 (by decide) kw3 rfl rfl dX11_count_225 ?_
                                        refine mt_getiN (C := RX3) (T := TX3) (N := 3) hx hb hts hinX3 hown hI hH mt_T43 rfl 2 (by decide) (List.mem_of_getElem? (i := 18) rfl) rfl rfl dX11_count_228 ?_
                                        have i1 := mt_so1 hf
                                        subst i1
                                        exact mt_iret hx hb hr hI hH hS hlocks dX11_count_231
                                      · have hf := mt_ifF c30 hf
                                        refine lv_tableOut (tgt := 232) hx hb dX11_count_23 (mt_tabOut (0) (17) (by decide) (by decide) (fun n hn => ?_)) (by decide) ?_
                                        · rcases (show n = 0 ∨ n = 1 ∨ n = 2 ∨ n = 3 ∨ n = 4 ∨ n = 5 ∨ n = 6 ∨ n = 7 ∨ n = 8 ∨ n = 9 ∨ n = 10 ∨ n = 11 ∨ n = 12 ∨ n = 13 ∨ n = 14 ∨ n = 15 ∨ n = 16 ∨ n = 17 from by omega) with rfl | rfl | rfl | rfl | rfl | rfl | rfl | rfl | rfl | rfl | rfl | rfl | rfl | rfl | rfl | rfl | rfl | rfl
                                          · exact fun e9 => c3 (e9.trans (by decide))
                                          · exact fun e9 => c4 (e9.trans (by decide))
                                          · exact fun e9 => c5 (e9.trans (by decide))
                                          · exact fun e9 => c6 (e9.trans (by decide))
                                          · exact fun e9 => c7 (e9.trans (by decide))
                                          · exact fun e9 => c8 (e9.trans (by decide))
                                          · exact fun e9 => c9 (e9.trans (by decide))
                                          · exact fun e9 => c10 (e9.trans (by decide))
                                          · exact fun e9 => c13 (e9.trans (by decide))
                                          · exact fun e9 => c22 (e9.trans (by decide))
                                          · exact fun e9 => c23 (e9.trans (by decide))
                                          · exact fun e9 => c24 (e9.trans (by decide))
                                          · exact fun e9 => c25 (e9.trans (by decide))
                                          · exact fun e9 => c26 (e9.trans (by decide))
                                          · exact fun e9 => c27 (e9.trans (by decide))
                                          · exact fun e9 => c28 (e9.trans (by decide))
                                          · exact fun e9 => c29 (e9.trans (by decide))
                                          · exact fun e9 => c30 (e9.trans (by decide))
                                        · refine lv_bipush (v := (-9)) hx hb dX11_count_232 (by decide) ?_
                                          have i1 := mt_so1 hf
                                          subst i1
                                          exact mt_iret hx hb hr hI hH hS hlocks dX11_count_234
  · intro j1 hj2 hf
    refine lv_icmp_lt (tgt := 22) hx hb dX11_count_3 (by decide) (fun c31 => ?_) (fun c31 => ?_)
    · have hf := mt_ifT c31 hf
      exact hj2 hf _ _ _ hH hS (lv_sub hl [0, 1] rfl)
    · have hf := mt_ifF c31 hf
      refine lv_iload_n hx hb dX11_count_6 rfl (lv_at hl 1 rfl) ?_
      refine lv_bipush (v := 16) hx hb dX11_count_7 (by decide) ?_
      refine lv_icmp_gt (tgt := 22) hx hb dX11_count_9 (by decide) (fun c32 => ?_) (fun c32 => ?_)
      · have hf := mt_ifT c32 hf
        exact hj2 hf _ _ _ hH hS (lv_sub hl [0, 1] rfl)
      · have hf := mt_ifF c32 hf
        refine lv_aload_n hx hb dX11_count_12 rfl (lv_at hl 0 rfl) ?_
        refine mt_getr (C := RX11) (T := TX11) (N := 10) hx hb hts hinX11 hown hI hH mt_T0 rfl 9 (by decide) kw4 rfl rfl dX11_count_13 ?_
        refine lv_iload_n hx hb dX11_count_16 rfl (lv_at hl 1 rfl) ?_
        refine lv_bipush (v := 10) hx hb dX11_count_17 (by decide) ?_
        refine lv_isub hx hb dX11_count_19 ?_
        refine mt_ciI hf (fun q33 hf => ?_)
        refine mt_iald hx hb hI hH mt_T2 q33 dX11_count_20 ?_
        have i1 := mt_so1 hf
        subst i1
        exact mt_iret hx hb hr hI hH hS hlocks dX11_count_21
set_option maxHeartbeats 4000000 in
set_option maxRecDepth 100000 in
theorem c_X12_no (l : Launch) (E : mt_E) (a1 : Int32) (M : mt_M) (u : mt_U) (r : Int32) (M' : mt_M) (hf : f_X12_no a1 M = some (r, M')) : Met l yX12_no wsX12_no ({ frames := 0, cells := 0, slots := 0, locals := 0 } : Room) (mt_P E [.ref (E.2.1 147), .int a1] M u) (mt_Qi E r M' u) 0 0 (mt_A E) := by
  refine Met.ofW (cc := cX12_no) (maxL := 2) (ret := (some .int)) (by decide) rfl ?_
  intro p e s mid args below meth c0 s₁ B hml hv
  obtain ⟨rfl, hI, hH⟩ := hv
  have hx := B.exec
  have hb := B.bytes
  have hr := B.returns
  have hts := atoms_spec (ws := wsX12_no) B.pre
  have hown : s.vm.findClass RX12 = some mid.cls := findClass_of_methodNamed B.named
  have hlocks := B.notSynchronized
  have hS : va_S (mt_A E) s.heap s.heap [] := va_S.rf
  have hl := lv_entry ([.ref (E.2.1 147), .int a1]) (n := 2) (Nat.le_of_ble_eq_true rfl)
  rw [lg_entry_eq]
  generalize (lg_sl ([.ref (E.2.1 147), .int a1]) ++ List.replicate (2 - (lg_sl ([.ref (E.2.1 147), .int a1])).length) Slot.unset).toArray = ls at hl ⊢
  have hl : lv_has ls 2 [(0, .ref (E.2.1 147)), (1, .int a1)] := hl
  unfold f_X12_no at hf
  have kw0 := hts (.fieldLink RX12 7 "MilkTwiceModel" "refused" "[I") (List.mem_of_getElem? (i := 1) rfl)
  have hinX12 : ∀ w ∈ u_ws RX12 TX12 29, w ∈ wsX12_no := fun w h => List.mem_cons_of_mem _ (List.mem_append_right _ h)
  refine lv_aload_n hx hb dX12_no_0 rfl (lv_at hl 0 rfl) ?_
  refine mt_getr (C := RX12) (T := TX12) (N := 29) hx hb hts hinX12 hown hI hH mt_T147 rfl 0 (by decide) kw0 rfl rfl dX12_no_1 ?_
  refine lv_iload_n hx hb dX12_no_4 rfl (lv_at hl 1 rfl) ?_
  refine lv_ineg hx hb dX12_no_5 ?_
  refine lv_dup2_11 hx hb dX12_no_6 rfl rfl ?_
  refine mt_ciI hf (fun q1 hf => ?_)
  refine mt_iald hx hb hI hH mt_T148 q1 dX12_no_7 ?_
  refine lv_iconst (v := 1) hx hb dX12_no_8 (by decide) ?_
  refine lv_iadd hx hb dX12_no_9 ?_
  refine mt_ciI hf (fun q3 hf => ?_)
  refine mt_iast hx hb hI hH hS mt_T148 q3 dX12_no_10 (fun H locs hH hS => ?_)
  refine mt_ltI hf (fun M2 eM2 hf => ?_)
  rw [← eM2] at hH
  refine lv_iload_n hx hb dX12_no_11 rfl (lv_at hl 1 rfl) ?_
  obtain ⟨i1, i2⟩ := mt_so2 hf
  subst i1
  subst i2
  exact mt_iret hx hb hr hI hH hS hlocks dX12_no_12
set_option maxHeartbeats 4000000 in
set_option maxRecDepth 100000 in
theorem c_X12_lowest (l : Launch) (E : mt_E) (a1 : Int32) (M : mt_M) (u : mt_U) (r : Int64) (M' : mt_M) (hf : f_X12_lowest a1 M = some (r, M')) : Met l yX12_lowest wsX12_lowest ({ frames := 0, cells := 0, slots := 0, locals := 0 } : Room) (mt_P E [.ref (E.2.1 147), .int a1] M u) (mt_Ql E r M' u) 0 0 (mt_A E) := by
  refine Met.ofW (cc := cX12_lowest) (maxL := 2) (ret := (some .long)) (by decide) rfl ?_
  intro p e s mid args below meth c0 s₁ B hml hv
  obtain ⟨rfl, hI, hH⟩ := hv
  have hx := B.exec
  have hb := B.bytes
  have hr := B.returns
  have hts := atoms_spec (ws := wsX12_lowest) B.pre
  have hown : s.vm.findClass RX12 = some mid.cls := findClass_of_methodNamed B.named
  have hlocks := B.notSynchronized
  have hS : va_S (mt_A E) s.heap s.heap [] := va_S.rf
  have hl := lv_entry ([.ref (E.2.1 147), .int a1]) (n := 2) (Nat.le_of_ble_eq_true rfl)
  rw [lg_entry_eq]
  generalize (lg_sl ([.ref (E.2.1 147), .int a1]) ++ List.replicate (2 - (lg_sl ([.ref (E.2.1 147), .int a1])).length) Slot.unset).toArray = ls at hl ⊢
  have hl : lv_has ls 2 [(0, .ref (E.2.1 147)), (1, .int a1)] := hl
  unfold f_X12_lowest at hf
  have kw0 := hts (.fieldLink RX12 7 "MilkTwiceModel" "refused" "[I") (List.mem_of_getElem? (i := 1) rfl)
  have kw1 := hts (.constantLong RX12 63 (4000000000000000000)) (List.mem_of_getElem? (i := 2) rfl)
  have hinX12 : ∀ w ∈ u_ws RX12 TX12 29, w ∈ wsX12_lowest := fun w h => List.mem_cons_of_mem _ (List.mem_append_right _ h)
  refine lv_aload_n hx hb dX12_lowest_0 rfl (lv_at hl 0 rfl) ?_
  refine mt_getr (C := RX12) (T := TX12) (N := 29) hx hb hts hinX12 hown hI hH mt_T147 rfl 0 (by decide) kw0 rfl rfl dX12_lowest_1 ?_
  refine lv_iload_n hx hb dX12_lowest_4 rfl (lv_at hl 1 rfl) ?_
  refine lv_ineg hx hb dX12_lowest_5 ?_
  refine lv_dup2_11 hx hb dX12_lowest_6 rfl rfl ?_
  refine mt_ciI hf (fun q1 hf => ?_)
  refine mt_iald hx hb hI hH mt_T148 q1 dX12_lowest_7 ?_
  refine lv_iconst (v := 1) hx hb dX12_lowest_8 (by decide) ?_
  refine lv_iadd hx hb dX12_lowest_9 ?_
  refine mt_ciI hf (fun q3 hf => ?_)
  refine mt_iast hx hb hI hH hS mt_T148 q3 dX12_lowest_10 (fun H locs hH hS => ?_)
  refine mt_ltI hf (fun M2 eM2 hf => ?_)
  rw [← eM2] at hH
  refine lv_ldc2 hx hb hown kw1 dX12_lowest_11 ?_
  refine lv_iload_n hx hb dX12_lowest_14 rfl (lv_at hl 1 rfl) ?_
  refine lv_i2l (v := ((a1).toInt64)) hx hb dX12_lowest_15 rfl ?_
  refine lv_lsub hx hb dX12_lowest_16 ?_
  obtain ⟨i1, i2⟩ := mt_so2 hf
  subst i1
  subst i2
  exact mt_lret hx hb hr hI hH hS hlocks dX12_lowest_17
set_option maxHeartbeats 4000000 in
set_option maxRecDepth 100000 in
theorem c_X12_isIn (l : Launch) (E : mt_E) (a0 : Int32) (a1 : Int32) (a2 : Int32) (M : mt_M) (u : mt_U) (r : Int32) (hf : f_X12_isIn a0 a1 a2 = some (r)) : Met l yX12_isIn wsX12_isIn ({ frames := 0, cells := 0, slots := 0, locals := 0 } : Room) (mt_P E [.int a0, .int a1, .int a2] M u) (mt_Qi E r M u) 0 0 (mt_A E) := by
  refine Met.ofW (cc := cX12_isIn) (maxL := 3) (ret := (some .boolean)) (by decide) rfl ?_
  intro p e s mid args below meth c0 s₁ B hml hv
  obtain ⟨rfl, hI, hH⟩ := hv
  have hx := B.exec
  have hb := B.bytes
  have hr := B.returns
  have hts := atoms_spec (ws := wsX12_isIn) B.pre
  have hown : s.vm.findClass RX12 = some mid.cls := findClass_of_methodNamed B.named
  have hlocks := B.notSynchronized
  have hS : va_S (mt_A E) s.heap s.heap [] := va_S.rf
  have hl := lv_entry ([.int a0, .int a1, .int a2]) (n := 3) (Nat.le_of_ble_eq_true rfl)
  rw [lg_entry_eq]
  generalize (lg_sl ([.int a0, .int a1, .int a2]) ++ List.replicate (3 - (lg_sl ([.int a0, .int a1, .int a2])).length) Slot.unset).toArray = ls at hl ⊢
  have hl : lv_has ls 3 [(0, .int a0), (1, .int a1), (2, .int a2)] := hl
  unfold f_X12_isIn at hf
  refine lv_iload_n hx hb dX12_isIn_0 rfl (lv_at hl 0 rfl) ?_
  refine lv_iload_n hx hb dX12_isIn_1 rfl (lv_at hl 1 rfl) ?_
  refine lv_icmp_lt (tgt := 14) hx hb dX12_isIn_2 (by decide) (fun c1 => ?_) (fun c1 => ?_)
  · have hf := mt_ifT c1 hf
    refine lv_iconst (v := 0) hx hb dX12_isIn_14 (by decide) ?_
    have i1 := mt_so1 hf
    subst i1
    exact mt_zret hx hb hr hI hH hS (by decide) hlocks dX12_isIn_15
  · have hf := mt_ifF c1 hf
    refine lv_iload_n hx hb dX12_isIn_5 rfl (lv_at hl 0 rfl) ?_
    refine lv_iload_n hx hb dX12_isIn_6 rfl (lv_at hl 2 rfl) ?_
    refine lv_icmp_gt (tgt := 14) hx hb dX12_isIn_7 (by decide) (fun c2 => ?_) (fun c2 => ?_)
    · have hf := mt_ifT c2 hf
      refine lv_iconst (v := 0) hx hb dX12_isIn_14 (by decide) ?_
      have i1 := mt_so1 hf
      subst i1
      exact mt_zret hx hb hr hI hH hS (by decide) hlocks dX12_isIn_15
    · have hf := mt_ifF c2 hf
      refine lv_iconst (v := 1) hx hb dX12_isIn_10 (by decide) ?_
      refine lv_goto (tgt := 15) hx hb dX12_isIn_11 (by decide) ?_
      have i1 := mt_so1 hf
      subst i1
      exact mt_zret hx hb hr hI hH hS (by decide) hlocks dX12_isIn_15
set_option maxHeartbeats 4000000 in
set_option maxRecDepth 100000 in
theorem c_X12_bound (l : Launch) (E : mt_E) (a0 : Int32) (a1 : Int32) (a2 : Int32) (M : mt_M) (u : mt_U) (r : Int32) (hf : f_X12_bound a0 a1 a2 = some (r)) : Met l yX12_bound wsX12_bound ({ frames := 0, cells := 0, slots := 0, locals := 0 } : Room) (mt_P E [.int a0, .int a1, .int a2] M u) (mt_Qi E r M u) 0 0 (mt_A E) := by
  refine Met.ofW (cc := cX12_bound) (maxL := 3) (ret := (some .int)) (by decide) rfl ?_
  intro p e s mid args below meth c0 s₁ B hml hv
  obtain ⟨rfl, hI, hH⟩ := hv
  have hx := B.exec
  have hb := B.bytes
  have hr := B.returns
  have hts := atoms_spec (ws := wsX12_bound) B.pre
  have hown : s.vm.findClass RX12 = some mid.cls := findClass_of_methodNamed B.named
  have hlocks := B.notSynchronized
  have hS : va_S (mt_A E) s.heap s.heap [] := va_S.rf
  have hl := lv_entry ([.int a0, .int a1, .int a2]) (n := 3) (Nat.le_of_ble_eq_true rfl)
  rw [lg_entry_eq]
  generalize (lg_sl ([.int a0, .int a1, .int a2]) ++ List.replicate (3 - (lg_sl ([.int a0, .int a1, .int a2])).length) Slot.unset).toArray = ls at hl ⊢
  have hl : lv_has ls 3 [(0, .int a0), (1, .int a1), (2, .int a2)] := hl
  unfold f_X12_bound at hf
  refine lv_iload_n hx hb dX12_bound_0 rfl (lv_at hl 0 rfl) ?_
  refine lv_iload_n hx hb dX12_bound_1 rfl (lv_at hl 1 rfl) ?_
  refine lv_icmp_ge (tgt := 10) hx hb dX12_bound_2 (by decide) (fun c1 => ?_) (fun c1 => ?_)
  · have hf := mt_ifT c1 hf
    refine lv_iload_n hx hb dX12_bound_10 rfl (lv_at hl 0 rfl) ?_
    refine lv_iload_n hx hb dX12_bound_11 rfl (lv_at hl 2 rfl) ?_
    refine lv_icmp_le (tgt := 20) hx hb dX12_bound_12 (by decide) (fun c2 => ?_) (fun c2 => ?_)
    · have hf := mt_ifT c2 hf
      refine lv_iconst (v := 0) hx hb dX12_bound_20 (by decide) ?_
      have i1 := mt_so1 hf
      subst i1
      exact mt_iret hx hb hr hI hH hS hlocks dX12_bound_21
    · have hf := mt_ifF c2 hf
      refine lv_bipush (v := (-6)) hx hb dX12_bound_15 (by decide) ?_
      refine lv_goto (tgt := 21) hx hb dX12_bound_17 (by decide) ?_
      have i1 := mt_so1 hf
      subst i1
      exact mt_iret hx hb hr hI hH hS hlocks dX12_bound_21
  · have hf := mt_ifF c1 hf
    refine lv_bipush (v := (-4)) hx hb dX12_bound_5 (by decide) ?_
    refine lv_goto (tgt := 21) hx hb dX12_bound_7 (by decide) ?_
    have i1 := mt_so1 hf
    subst i1
    exact mt_iret hx hb hr hI hH hS hlocks dX12_bound_21
set_option maxHeartbeats 4000000 in
set_option maxRecDepth 100000 in
theorem c_X12_has (l : Launch) (E : mt_E) (a0 : Int32) (a1 : Int32) (M : mt_M) (u : mt_U) (r : Int32) (hf : f_X12_has a0 a1 = some (r)) : Met l yX12_has wsX12_has ({ frames := 0, cells := 0, slots := 0, locals := 0 } : Room) (mt_P E [.int a0, .int a1] M u) (mt_Qi E r M u) 0 0 (mt_A E) := by
  refine Met.ofW (cc := cX12_has) (maxL := 2) (ret := (some .boolean)) (by decide) rfl ?_
  intro p e s mid args below meth c0 s₁ B hml hv
  obtain ⟨rfl, hI, hH⟩ := hv
  have hx := B.exec
  have hb := B.bytes
  have hr := B.returns
  have hts := atoms_spec (ws := wsX12_has) B.pre
  have hown : s.vm.findClass RX12 = some mid.cls := findClass_of_methodNamed B.named
  have hlocks := B.notSynchronized
  have hS : va_S (mt_A E) s.heap s.heap [] := va_S.rf
  have hl := lv_entry ([.int a0, .int a1]) (n := 2) (Nat.le_of_ble_eq_true rfl)
  rw [lg_entry_eq]
  generalize (lg_sl ([.int a0, .int a1]) ++ List.replicate (2 - (lg_sl ([.int a0, .int a1])).length) Slot.unset).toArray = ls at hl ⊢
  have hl : lv_has ls 2 [(0, .int a0), (1, .int a1)] := hl
  unfold f_X12_has at hf
  refine lv_iload_n hx hb dX12_has_0 rfl (lv_at hl 0 rfl) ?_
  refine lv_iload_n hx hb dX12_has_1 rfl (lv_at hl 1 rfl) ?_
  refine lv_ishr hx hb dX12_has_2 ?_
  refine lv_iconst (v := 1) hx hb dX12_has_3 (by decide) ?_
  refine lv_iand hx hb dX12_has_4 ?_
  refine lv_iconst (v := 1) hx hb dX12_has_5 (by decide) ?_
  refine lv_icmp_ne (tgt := 13) hx hb dX12_has_6 (by decide) (fun c1 => ?_) (fun c1 => ?_)
  · have hf := mt_ifF c1 hf
    refine lv_iconst (v := 0) hx hb dX12_has_13 (by decide) ?_
    have i1 := mt_so1 hf
    subst i1
    exact mt_zret hx hb hr hI hH hS (by decide) hlocks dX12_has_14
  · have hf := mt_ifT c1 hf
    refine lv_iconst (v := 1) hx hb dX12_has_9 (by decide) ?_
    refine lv_goto (tgt := 14) hx hb dX12_has_10 (by decide) ?_
    have i1 := mt_so1 hf
    subst i1
    exact mt_zret hx hb hr hI hH hS (by decide) hlocks dX12_has_14
set_option maxHeartbeats 4000000 in
set_option maxRecDepth 100000 in
theorem c_X12_isThing (l : Launch) (E : mt_E) (a1 : Int32) (M : mt_M) (u : mt_U) (r : Int32) (hf : f_X12_isThing a1 M = some (r)) : Met l yX12_isThing wsX12_isThing ({ frames := 0, cells := 0, slots := 0, locals := 0 } : Room) (mt_P E [.ref (E.2.1 147), .int a1] M u) (mt_Qi E r M u) 0 0 (mt_A E) := by
  refine Met.ofW (cc := cX12_isThing) (maxL := 2) (ret := (some .boolean)) (by decide) rfl ?_
  intro p e s mid args below meth c0 s₁ B hml hv
  obtain ⟨rfl, hI, hH⟩ := hv
  have hx := B.exec
  have hb := B.bytes
  have hr := B.returns
  have hts := atoms_spec (ws := wsX12_isThing) B.pre
  have hown : s.vm.findClass RX12 = some mid.cls := findClass_of_methodNamed B.named
  have hlocks := B.notSynchronized
  have hS : va_S (mt_A E) s.heap s.heap [] := va_S.rf
  have hl := lv_entry ([.ref (E.2.1 147), .int a1]) (n := 2) (Nat.le_of_ble_eq_true rfl)
  rw [lg_entry_eq]
  generalize (lg_sl ([.ref (E.2.1 147), .int a1]) ++ List.replicate (2 - (lg_sl ([.ref (E.2.1 147), .int a1])).length) Slot.unset).toArray = ls at hl ⊢
  have hl : lv_has ls 2 [(0, .ref (E.2.1 147)), (1, .int a1)] := hl
  unfold f_X12_isThing at hf
  have kw0 := hts (.fieldLink RX12 59 "MilkTwiceModel" "things" "I") (List.mem_of_getElem? (i := 1) rfl)
  have hinX12 : ∀ w ∈ u_ws RX12 TX12 29, w ∈ wsX12_isThing := fun w h => List.mem_cons_of_mem _ (List.mem_append_right _ h)
  refine lv_iload_n hx hb dX12_isThing_0 rfl (lv_at hl 1 rfl) ?_
  refine lv_if_lt (tgt := 16) hx hb dX12_isThing_1 (by decide) (fun c1 => ?_) (fun c1 => ?_)
  · have hf := mt_ifT c1 hf
    refine lv_iconst (v := 0) hx hb dX12_isThing_16 (by decide) ?_
    have i1 := mt_so1 hf
    subst i1
    exact mt_zret hx hb hr hI hH hS (by decide) hlocks dX12_isThing_17
  · have hf := mt_ifF c1 hf
    refine lv_iload_n hx hb dX12_isThing_4 rfl (lv_at hl 1 rfl) ?_
    refine lv_aload_n hx hb dX12_isThing_5 rfl (lv_at hl 0 rfl) ?_
    refine mt_geti (C := RX12) (T := TX12) (N := 29) hx hb hts hinX12 hown hI hH mt_T147 rfl 8 (by decide) kw0 rfl rfl dX12_isThing_6 ?_
    refine lv_icmp_ge (tgt := 16) hx hb dX12_isThing_9 (by decide) (fun c2 => ?_) (fun c2 => ?_)
    · have hf := mt_ifT c2 hf
      refine lv_iconst (v := 0) hx hb dX12_isThing_16 (by decide) ?_
      have i1 := mt_so1 hf
      subst i1
      exact mt_zret hx hb hr hI hH hS (by decide) hlocks dX12_isThing_17
    · have hf := mt_ifF c2 hf
      refine lv_iconst (v := 1) hx hb dX12_isThing_12 (by decide) ?_
      refine lv_goto (tgt := 17) hx hb dX12_isThing_13 (by decide) ?_
      have i1 := mt_so1 hf
      subst i1
      exact mt_zret hx hb hr hI hH hS (by decide) hlocks dX12_isThing_17
set_option maxHeartbeats 4000000 in
set_option maxRecDepth 100000 in
theorem c_X12_isList (l : Launch) (E : mt_E) (a0 : Int32) (M : mt_M) (u : mt_U) (r : Int32) (hf : f_X12_isList a0 = some (r)) : Met l yX12_isList wsX12_isList ({ frames := 0, cells := 0, slots := 0, locals := 0 } : Room) (mt_P E [.int a0] M u) (mt_Qi E r M u) 0 0 (mt_A E) := by
  refine Met.ofW (cc := cX12_isList) (maxL := 1) (ret := (some .boolean)) (by decide) rfl ?_
  intro p e s mid args below meth c0 s₁ B hml hv
  obtain ⟨rfl, hI, hH⟩ := hv
  have hx := B.exec
  have hb := B.bytes
  have hr := B.returns
  have hts := atoms_spec (ws := wsX12_isList) B.pre
  have hown : s.vm.findClass RX12 = some mid.cls := findClass_of_methodNamed B.named
  have hlocks := B.notSynchronized
  have hS : va_S (mt_A E) s.heap s.heap [] := va_S.rf
  have hl := lv_entry ([.int a0]) (n := 1) (Nat.le_of_ble_eq_true rfl)
  rw [lg_entry_eq]
  generalize (lg_sl ([.int a0]) ++ List.replicate (1 - (lg_sl ([.int a0])).length) Slot.unset).toArray = ls at hl ⊢
  have hl : lv_has ls 1 [(0, .int a0)] := hl
  unfold f_X12_isList at hf
  refine lv_iload_n hx hb dX12_isList_0 rfl (lv_at hl 0 rfl) ?_
  refine lv_if_eq (tgt := 9) hx hb dX12_isList_1 (by decide) (fun c1 => ?_) (fun c1 => ?_)
  · have hf := mt_ifT c1 hf
    refine lv_iconst (v := 1) hx hb dX12_isList_9 (by decide) ?_
    refine lv_goto (tgt := 14) hx hb dX12_isList_10 (by decide) ?_
    have i1 := mt_so1 hf
    subst i1
    exact mt_zret hx hb hr hI hH hS (by decide) hlocks dX12_isList_14
  · have hf := mt_ifF c1 hf
    refine lv_iload_n hx hb dX12_isList_4 rfl (lv_at hl 0 rfl) ?_
    refine lv_iconst (v := 1) hx hb dX12_isList_5 (by decide) ?_
    refine lv_icmp_ne (tgt := 13) hx hb dX12_isList_6 (by decide) (fun c2 => ?_) (fun c2 => ?_)
    · have hf := mt_ifF c2 hf
      refine lv_iconst (v := 0) hx hb dX12_isList_13 (by decide) ?_
      have i1 := mt_so1 hf
      subst i1
      exact mt_zret hx hb hr hI hH hS (by decide) hlocks dX12_isList_14
    · have hf := mt_ifT c2 hf
      refine lv_iconst (v := 1) hx hb dX12_isList_9 (by decide) ?_
      refine lv_goto (tgt := 14) hx hb dX12_isList_10 (by decide) ?_
      have i1 := mt_so1 hf
      subst i1
      exact mt_zret hx hb hr hI hH hS (by decide) hlocks dX12_isList_14
set_option maxHeartbeats 4000000 in
set_option maxRecDepth 100000 in
theorem c_X12_isLine (l : Launch) (E : mt_E) (a1 : Int32) (a2 : Int32) (M : mt_M) (u : mt_U) (r : Int32) (hf : f_X12_isLine a1 a2 M = some (r)) : Met l yX12_isLine wsX12_isLine ({ frames := 1, cells := 0, slots := 0, locals := 21 } : Room) (mt_P E [.ref (E.2.1 147), .int a1, .int a2] M u) (mt_Qi E r M u) 0 0 (mt_A E) := by
  refine Met.ofW (cc := cX12_isLine) (maxL := 3) (ret := (some .boolean)) (by decide) rfl ?_
  intro p e s mid args below meth c0 s₁ B hml hv
  obtain ⟨rfl, hI, hH⟩ := hv
  have hx := B.exec
  have hb := B.bytes
  have hr := B.returns
  have hts := atoms_spec (ws := wsX12_isLine) B.pre
  have hown : s.vm.findClass RX12 = some mid.cls := findClass_of_methodNamed B.named
  have hlocks := B.notSynchronized
  have hS : va_S (mt_A E) s.heap s.heap [] := va_S.rf
  have hl := lv_entry ([.ref (E.2.1 147), .int a1, .int a2]) (n := 3) (Nat.le_of_ble_eq_true rfl)
  rw [lg_entry_eq]
  generalize (lg_sl ([.ref (E.2.1 147), .int a1, .int a2]) ++ List.replicate (3 - (lg_sl ([.ref (E.2.1 147), .int a1, .int a2])).length) Slot.unset).toArray = ls at hl ⊢
  have hl : lv_has ls 3 [(0, .ref (E.2.1 147)), (1, .int a1), (2, .int a2)] := hl
  unfold f_X12_isLine at hf
  refine lv_iload_n hx hb dX12_isLine_0 rfl (lv_at hl 1 rfl) ?_
  refine mt_b1I hf (fun r2 hg1 hf => ?_)
  refine mt_goi (mt_runS (As := [.int a1]) (rest := []) ⟨hx, hb, hml, hown, hts⟩ hI hH (c_X12_isList l E a1 M u _ hg1) (va_cwS 1 hts gX12_isLine_X12_isList rfl rfl rfl (by decide +kernel) ⟨Nat.le_of_ble_eq_true rfl, Nat.le_of_ble_eq_true rfl⟩) rfl hl.1 rfl (Nat.le_of_ble_eq_true rfl) dX12_isLine_1 ⟨Nat.zero_le _, Nat.zero_le _⟩) hS (fun H locs hH hS => ?_)
  refine lv_if_eq (tgt := 19) hx hb dX12_isLine_4 (by decide) (fun c3 => ?_) (fun c3 => ?_)
  · have hf := mt_ifT c3 hf
    refine lv_iconst (v := 0) hx hb dX12_isLine_19 (by decide) ?_
    have i1 := mt_so1 hf
    subst i1
    exact mt_zret hx hb hr hI hH hS (by decide) hlocks dX12_isLine_20
  · have hf := mt_ifF c3 hf
    refine lv_aload_n hx hb dX12_isLine_7 rfl (lv_at hl 0 rfl) ?_
    refine lv_iload_n hx hb dX12_isLine_8 rfl (lv_at hl 2 rfl) ?_
    refine mt_b1I hf (fun r5 hg4 hf => ?_)
    refine mt_goi (mt_runV (i := 147) (As := [.int a2]) (rest := []) ⟨hx, hb, hml, hown, hts⟩ hI hH (c_X12_isThing l E a2 M u _ hg4) (cwV 1 hts gX12_isLine_X12_isThing rfl rfl rfl (by decide +kernel) ⟨Nat.le_of_ble_eq_true rfl, Nat.le_of_ble_eq_true rfl⟩) mt_T147 rfl rfl hl.1 rfl (Nat.le_of_ble_eq_true rfl) dX12_isLine_9 ⟨Nat.zero_le _, Nat.zero_le _⟩) hS (fun H locs hH hS => ?_)
    refine lv_if_eq (tgt := 19) hx hb dX12_isLine_12 (by decide) (fun c6 => ?_) (fun c6 => ?_)
    · have hf := mt_ifT c6 hf
      refine lv_iconst (v := 0) hx hb dX12_isLine_19 (by decide) ?_
      have i1 := mt_so1 hf
      subst i1
      exact mt_zret hx hb hr hI hH hS (by decide) hlocks dX12_isLine_20
    · have hf := mt_ifF c6 hf
      refine lv_iconst (v := 1) hx hb dX12_isLine_15 (by decide) ?_
      refine lv_goto (tgt := 20) hx hb dX12_isLine_16 (by decide) ?_
      have i1 := mt_so1 hf
      subst i1
      exact mt_zret hx hb hr hI hH hS (by decide) hlocks dX12_isLine_20
set_option maxHeartbeats 4000000 in
set_option maxRecDepth 100000 in
theorem c_X12_feed (l : Launch) (E : mt_E) (a1 : Int32) (M : mt_M) (u : mt_U) (r : Int32) (M' : mt_M) (hf : f_X12_feed a1 M = some (r, M')) : Met l yX12_feed wsX12_feed ({ frames := 1, cells := 0, slots := 0, locals := 22 } : Room) (mt_P E [.ref (E.2.1 147), .int a1] M u) (mt_Qi E r M' u) 0 0 (mt_A E) := by
  refine Met.ofW (cc := cX12_feed) (maxL := 3) (ret := (some .int)) (by decide) rfl ?_
  intro p e s mid args below meth c0 s₁ B hml hv
  obtain ⟨rfl, hI, hH⟩ := hv
  have hx := B.exec
  have hb := B.bytes
  have hr := B.returns
  have hts := atoms_spec (ws := wsX12_feed) B.pre
  have hown : s.vm.findClass RX12 = some mid.cls := findClass_of_methodNamed B.named
  have hlocks := B.notSynchronized
  have hS : va_S (mt_A E) s.heap s.heap [] := va_S.rf
  have hl := lv_entry ([.ref (E.2.1 147), .int a1]) (n := 3) (Nat.le_of_ble_eq_true rfl)
  rw [lg_entry_eq]
  generalize (lg_sl ([.ref (E.2.1 147), .int a1]) ++ List.replicate (3 - (lg_sl ([.ref (E.2.1 147), .int a1])).length) Slot.unset).toArray = ls at hl ⊢
  have hl : lv_has ls 3 [(0, .ref (E.2.1 147)), (1, .int a1)] := hl
  unfold f_X12_feed at hf
  have kw0 := hts (.fieldLink RX12 34 "MilkTwiceModel" "tape" "[I") (List.mem_of_getElem? (i := 2) rfl)
  have kw1 := hts (.fieldLink RX12 76 "MilkTwiceModel" "taped" "I") (List.mem_of_getElem? (i := 1) rfl)
  have hinX12 : ∀ w ∈ u_ws RX12 TX12 29, w ∈ wsX12_feed := fun w h => List.mem_cons_of_mem _ (List.mem_append_right _ h)
  refine lv_iload_n hx hb dX12_feed_0 rfl (lv_at hl 1 rfl) ?_
  refine lv_iconst (v := 0) hx hb dX12_feed_1 (by decide) ?_
  refine lv_sipush (v := 255) hx hb dX12_feed_2 (by decide) ?_
  refine mt_b1I hf (fun r2 hg1 hf => ?_)
  refine mt_goi (mt_runS (As := [.int a1, .int (0 : Int32), .int (255 : Int32)]) (rest := []) ⟨hx, hb, hml, hown, hts⟩ hI hH (c_X12_bound l E a1 (0 : Int32) (255 : Int32) M u _ hg1) (va_cwS 3 hts gX12_feed_X12_bound rfl rfl rfl (by decide +kernel) ⟨Nat.le_of_ble_eq_true rfl, Nat.le_of_ble_eq_true rfl⟩) rfl hl.1 rfl (Nat.le_of_ble_eq_true rfl) dX12_feed_5 ⟨Nat.zero_le _, Nat.zero_le _⟩) hS (fun H locs hH hS => ?_)
  refine lv_istore_n (lv' := [(2, .int r2), (0, .ref (E.2.1 147)), (1, .int a1)]) hx hb dX12_feed_8 rfl hl (by decide) rfl (fun ls hl => ?_)
  refine lv_iload_n hx hb dX12_feed_9 rfl (lv_at hl 0 rfl) ?_
  refine mt_jn1 hf (fun (x3 : Int32) => ∀ (H : Heap) (locs : List Loc) (ls : Array Slot), mt_H E M u H → va_S (mt_A E) s.heap H locs → lv_has ls 3 [(0, .ref (E.2.1 147)), (1, .int a1), (2, .int x3)] → W p l e (headSpec wsX12_feed ({ frames := 1, cells := 0, slots := 0, locals := 22 } : Room)).room s mid (([.ref (E.2.1 147), .int a1] : List Value).toArray) below meth c0 H locs 0 0 (MQ below (mt_Qi E r M' u) (([.ref (E.2.1 147), .int a1] : List Value).toArray) s 0 0 (mt_A E)) (F0 mid 25 ls [])) ?_ ?_
  · intro x3 hf H locs ls hH hS hl
    refine lv_iload_n hx hb dX12_feed_25 rfl (lv_at hl 2 rfl) ?_
    refine lv_if_eq (tgt := 35) hx hb dX12_feed_26 (by decide) (fun c6 => ?_) (fun c6 => ?_)
    · have hf := mt_ifT c6 hf
      refine lv_aload_n hx hb dX12_feed_35 rfl (lv_at hl 0 rfl) ?_
      refine mt_getr (C := RX12) (T := TX12) (N := 29) hx hb hts hinX12 hown hI hH mt_T147 rfl 12 (by decide) kw0 rfl rfl dX12_feed_36 ?_
      refine lv_aload_n hx hb dX12_feed_39 rfl (lv_at hl 0 rfl) ?_
      refine mt_geti (C := RX12) (T := TX12) (N := 29) hx hb hts hinX12 hown hI hH mt_T147 rfl 16 (by decide) kw1 rfl rfl dX12_feed_40 ?_
      refine lv_iload_n hx hb dX12_feed_43 rfl (lv_at hl 1 rfl) ?_
      refine mt_ciI hf (fun q8 hf => ?_)
      refine mt_iast hx hb hI hH hS mt_T156 q8 dX12_feed_44 (fun H locs hH hS => ?_)
      refine mt_ltI hf (fun M7 eM7 hf => ?_)
      rw [← eM7] at hH
      refine lv_aload_n hx hb dX12_feed_45 rfl (lv_at hl 0 rfl) ?_
      refine lv_dup hx hb dX12_feed_46 rfl ?_
      refine mt_geti (C := RX12) (T := TX12) (N := 29) hx hb hts hinX12 hown hI hH mt_T147 rfl 16 (by decide) kw1 rfl rfl dX12_feed_47 ?_
      refine lv_iconst (v := 1) hx hb dX12_feed_50 (by decide) ?_
      refine lv_iadd hx hb dX12_feed_51 ?_
      refine mt_puti (ty := .int) (C := RX12) (T := TX12) (N := 29) hx hb hts hinX12 tyX12 tyX12_ok nmX12 hown hI hH hS mt_T147 rfl 16 (by decide) kw1 rfl rfl (by decide +kernel) rfl rfl rfl dX12_feed_52 (fun H locs hH hS => ?_)
      refine mt_ltI hf (fun M9 eM9 hf => ?_)
      rw [← eM9] at hH
      refine lv_aload_n hx hb dX12_feed_55 rfl (lv_at hl 0 rfl) ?_
      refine mt_geti (C := RX12) (T := TX12) (N := 29) hx hb hts hinX12 hown hI hH mt_T147 rfl 16 (by decide) kw1 rfl rfl dX12_feed_56 ?_
      obtain ⟨i1, i2⟩ := mt_so2 hf
      subst i1
      subst i2
      exact mt_iret hx hb hr hI hH hS hlocks dX12_feed_59
    · have hf := mt_ifF c6 hf
      refine lv_aload_n hx hb dX12_feed_29 rfl (lv_at hl 0 rfl) ?_
      refine lv_iload_n hx hb dX12_feed_30 rfl (lv_at hl 2 rfl) ?_
      refine mt_b2I hf (fun r11 M12 hg10 hf => ?_)
      refine mt_goi (mt_runV (i := 147) (As := [.int x3]) (rest := []) ⟨hx, hb, hml, hown, hts⟩ hI hH (c_X12_no l E x3 M u _ _ hg10) (cwV 1 hts gX12_feed_X12_no rfl rfl rfl (by decide +kernel) ⟨Nat.le_of_ble_eq_true rfl, Nat.le_of_ble_eq_true rfl⟩) mt_T147 rfl rfl hl.1 rfl (Nat.le_of_ble_eq_true rfl) dX12_feed_31 ⟨Nat.zero_le _, Nat.zero_le _⟩) hS (fun H locs hH hS => ?_)
      obtain ⟨i1, i2⟩ := mt_so2 hf
      subst i1
      subst i2
      exact mt_iret hx hb hr hI hH hS hlocks dX12_feed_34
  · intro j4 hj5 hf
    refine lv_if_ne (tgt := 25) hx hb dX12_feed_10 (by decide) (fun c13 => ?_) (fun c13 => ?_)
    · have hf := mt_ifF c13 hf
      exact hj5 r2 hf _ _ _ hH hS (lv_sub hl [1, 2, 0] rfl)
    · have hf := mt_ifT c13 hf
      refine lv_aload_n hx hb dX12_feed_13 rfl (lv_at hl 1 rfl) ?_
      refine mt_geti (C := RX12) (T := TX12) (N := 29) hx hb hts hinX12 hown hI hH mt_T147 rfl 16 (by decide) kw1 rfl rfl dX12_feed_14 ?_
      refine lv_bipush (v := 96) hx hb dX12_feed_17 (by decide) ?_
      refine lv_icmp_ne (tgt := 25) hx hb dX12_feed_19 (by decide) (fun c14 => ?_) (fun c14 => ?_)
      · have hf := mt_ifF c14 hf
        exact hj5 r2 hf _ _ _ hH hS (lv_sub hl [1, 2, 0] rfl)
      · have hf := mt_ifT c14 hf
        refine lv_bipush (v := (-6)) hx hb dX12_feed_22 (by decide) ?_
        refine lv_istore_n (lv' := [(2, .int (-6 : Int32)), (0, .ref (E.2.1 147)), (1, .int a1)]) hx hb dX12_feed_24 rfl hl (by decide) rfl (fun ls hl => ?_)
        exact hj5 (-6 : Int32) hf _ _ _ hH hS (lv_sub hl [1, 2, 0] rfl)
set_option maxHeartbeats 4000000 in
set_option maxRecDepth 100000 in
theorem c_X12_next (l : Launch) (E : mt_E)  (M : mt_M) (u : mt_U) (r : Int32) (hf : f_X12_next M = some (r)) : Met l yX12_next wsX12_next ({ frames := 0, cells := 0, slots := 0, locals := 0 } : Room) (mt_P E [.ref (E.2.1 147)] M u) (mt_Qi E r M u) 0 0 (mt_A E) := by
  refine Met.ofW (cc := cX12_next) (maxL := 1) (ret := (some .int)) (by decide) rfl ?_
  intro p e s mid args below meth c0 s₁ B hml hv
  obtain ⟨rfl, hI, hH⟩ := hv
  have hx := B.exec
  have hb := B.bytes
  have hr := B.returns
  have hts := atoms_spec (ws := wsX12_next) B.pre
  have hown : s.vm.findClass RX12 = some mid.cls := findClass_of_methodNamed B.named
  have hlocks := B.notSynchronized
  have hS : va_S (mt_A E) s.heap s.heap [] := va_S.rf
  have hl := lv_entry ([.ref (E.2.1 147)]) (n := 1) (Nat.le_of_ble_eq_true rfl)
  rw [lg_entry_eq]
  generalize (lg_sl ([.ref (E.2.1 147)]) ++ List.replicate (1 - (lg_sl ([.ref (E.2.1 147)])).length) Slot.unset).toArray = ls at hl ⊢
  have hl : lv_has ls 1 [(0, .ref (E.2.1 147))] := hl
  unfold f_X12_next at hf
  have kw0 := hts (.fieldLink RX12 83 "MilkTwiceModel" "at" "I") (List.mem_of_getElem? (i := 1) rfl)
  have kw1 := hts (.fieldLink RX12 76 "MilkTwiceModel" "taped" "I") (List.mem_of_getElem? (i := 2) rfl)
  have kw2 := hts (.fieldLink RX12 34 "MilkTwiceModel" "tape" "[I") (List.mem_of_getElem? (i := 3) rfl)
  have hinX12 : ∀ w ∈ u_ws RX12 TX12 29, w ∈ wsX12_next := fun w h => List.mem_cons_of_mem _ (List.mem_append_right _ h)
  refine lv_aload_n hx hb dX12_next_0 rfl (lv_at hl 0 rfl) ?_
  refine mt_geti (C := RX12) (T := TX12) (N := 29) hx hb hts hinX12 hown hI hH mt_T147 rfl 17 (by decide) kw0 rfl rfl dX12_next_1 ?_
  refine lv_aload_n hx hb dX12_next_4 rfl (lv_at hl 0 rfl) ?_
  refine mt_geti (C := RX12) (T := TX12) (N := 29) hx hb hts hinX12 hown hI hH mt_T147 rfl 16 (by decide) kw1 rfl rfl dX12_next_5 ?_
  refine lv_icmp_ge (tgt := 23) hx hb dX12_next_8 (by decide) (fun c1 => ?_) (fun c1 => ?_)
  · have hf := mt_ifT c1 hf
    refine lv_iconst (v := (-1)) hx hb dX12_next_23 (by decide) ?_
    have i1 := mt_so1 hf
    subst i1
    exact mt_iret hx hb hr hI hH hS hlocks dX12_next_24
  · have hf := mt_ifF c1 hf
    refine lv_aload_n hx hb dX12_next_11 rfl (lv_at hl 0 rfl) ?_
    refine mt_getr (C := RX12) (T := TX12) (N := 29) hx hb hts hinX12 hown hI hH mt_T147 rfl 12 (by decide) kw2 rfl rfl dX12_next_12 ?_
    refine lv_aload_n hx hb dX12_next_15 rfl (lv_at hl 0 rfl) ?_
    refine mt_geti (C := RX12) (T := TX12) (N := 29) hx hb hts hinX12 hown hI hH mt_T147 rfl 17 (by decide) kw0 rfl rfl dX12_next_16 ?_
    refine mt_ciI hf (fun q2 hf => ?_)
    refine mt_iald hx hb hI hH mt_T156 q2 dX12_next_19 ?_
    refine lv_goto (tgt := 24) hx hb dX12_next_20 (by decide) ?_
    have i1 := mt_so1 hf
    subst i1
    exact mt_iret hx hb hr hI hH hS hlocks dX12_next_24
set_option maxHeartbeats 4000000 in
set_option maxRecDepth 100000 in
theorem c_X12_readsDigits (l : Launch) (E : mt_E) (a1 : Int32) (a2 : Int32) (M : mt_M) (u : mt_U) (r : Int32) (M' : mt_M) (hf : f_X12_readsDigits a1 a2 M = some (r, M')) : Met l yX12_readsDigits wsX12_readsDigits ({ frames := 1, cells := 0, slots := 0, locals := 22 } : Room) (mt_P E [.ref (E.2.1 147), .int a1, .int a2] M u) (mt_Qi E r M' u) 0 0 (mt_A E) := by
  refine Met.ofW (cc := cX12_readsDigits) (maxL := 5) (ret := (some .boolean)) (by decide) rfl ?_
  intro p e s mid args below meth c0 s₁ B hml hv
  obtain ⟨rfl, hI, hH⟩ := hv
  have hx := B.exec
  have hb := B.bytes
  have hr := B.returns
  have hts := atoms_spec (ws := wsX12_readsDigits) B.pre
  have hown : s.vm.findClass RX12 = some mid.cls := findClass_of_methodNamed B.named
  have hlocks := B.notSynchronized
  have hS : va_S (mt_A E) s.heap s.heap [] := va_S.rf
  have hl := lv_entry ([.ref (E.2.1 147), .int a1, .int a2]) (n := 5) (Nat.le_of_ble_eq_true rfl)
  rw [lg_entry_eq]
  generalize (lg_sl ([.ref (E.2.1 147), .int a1, .int a2]) ++ List.replicate (5 - (lg_sl ([.ref (E.2.1 147), .int a1, .int a2])).length) Slot.unset).toArray = ls at hl ⊢
  have hl : lv_has ls 5 [(0, .ref (E.2.1 147)), (1, .int a1), (2, .int a2)] := hl
  unfold f_X12_readsDigits at hf
  have kw0 := hts (.fieldLink RX12 43 "MilkTwiceModel" "told" "[I") (List.mem_of_getElem? (i := 2) rfl)
  have kw1 := hts (.fieldLink RX12 83 "MilkTwiceModel" "at" "I") (List.mem_of_getElem? (i := 1) rfl)
  have hinX12 : ∀ w ∈ u_ws RX12 TX12 29, w ∈ wsX12_readsDigits := fun w h => List.mem_cons_of_mem _ (List.mem_append_right _ h)
  refine lv_iconst (v := 0) hx hb dX12_readsDigits_0 (by decide) ?_
  refine lv_istore_n (lv' := [(3, .int (0 : Int32)), (0, .ref (E.2.1 147)), (1, .int a1), (2, .int a2)]) hx hb dX12_readsDigits_1 rfl hl (by decide) rfl (fun ls hl => ?_)
  refine lv_iconst (v := 0) hx hb dX12_readsDigits_2 (by decide) ?_
  refine lv_istore (lv' := [(4, .int (0 : Int32)), (3, .int (0 : Int32)), (0, .ref (E.2.1 147)), (1, .int a1), (2, .int a2)]) hx hb dX12_readsDigits_3 hl (by decide) rfl (fun ls hl => ?_)
  refine mt_lpI3 hf (fun (x1 : Int32) (x2 : Int32) (M3 : mt_M) => ∀ (H : Heap) (locs : List Loc) (ls : Array Slot), mt_H E M3 u H → va_S (mt_A E) s.heap H locs → lv_has ls 5 [(0, .ref (E.2.1 147)), (1, .int a1), (2, .int a2), (3, .int x1), (4, .int x2)] → W p l e (headSpec wsX12_readsDigits ({ frames := 1, cells := 0, slots := 0, locals := 22 } : Room)).room s mid (([.ref (E.2.1 147), .int a1, .int a2] : List Value).toArray) below meth c0 H locs 0 0 (MQ below (mt_Qi E r M' u) (([.ref (E.2.1 147), .int a1, .int a2] : List Value).toArray) s 0 0 (mt_A E)) (F0 mid 5 ls [])) ?_ _ _ _ hH hS (lv_sub hl [2, 3, 4, 1, 0] rfl)
  intro k4 ih5 x1 x2 M3 hf H locs ls hH hS hl
  refine lv_iload hx hb dX12_readsDigits_5 (lv_at hl 4 rfl) ?_
  refine lv_iload_n hx hb dX12_readsDigits_7 rfl (lv_at hl 2 rfl) ?_
  refine lv_icmp_ge (tgt := 56) hx hb dX12_readsDigits_8 (by decide) (fun c6 => ?_) (fun c6 => ?_)
  · have hf := mt_ifT c6 hf
    refine lv_aload_n hx hb dX12_readsDigits_56 rfl (lv_at hl 0 rfl) ?_
    refine mt_getr (C := RX12) (T := TX12) (N := 29) hx hb hts hinX12 hown hI hH mt_T147 rfl 15 (by decide) kw0 rfl rfl dX12_readsDigits_57 ?_
    refine lv_iload_n hx hb dX12_readsDigits_60 rfl (lv_at hl 1 rfl) ?_
    refine lv_iload_n hx hb dX12_readsDigits_61 rfl (lv_at hl 3 rfl) ?_
    refine mt_ciI hf (fun q8 hf => ?_)
    refine mt_iast hx hb hI hH hS mt_T159 q8 dX12_readsDigits_62 (fun H locs hH hS => ?_)
    refine mt_ltI hf (fun M7 eM7 hf => ?_)
    rw [← eM7] at hH
    refine lv_iconst (v := 1) hx hb dX12_readsDigits_63 (by decide) ?_
    obtain ⟨i1, i2⟩ := mt_so2 hf
    subst i1
    subst i2
    exact mt_zret hx hb hr hI hH hS (by decide) hlocks dX12_readsDigits_64
  · have hf := mt_ifF c6 hf
    refine lv_aload_n hx hb dX12_readsDigits_11 rfl (lv_at hl 0 rfl) ?_
    refine mt_b1I hf (fun r10 hg9 hf => ?_)
    refine mt_goi (mt_runV (i := 147) (As := []) (rest := []) ⟨hx, hb, hml, hown, hts⟩ hI hH (c_X12_next l E M3 u _ hg9) (cwV 0 hts gX12_readsDigits_X12_next rfl rfl rfl (by decide +kernel) ⟨Nat.le_of_ble_eq_true rfl, Nat.le_of_ble_eq_true rfl⟩) mt_T147 rfl rfl hl.1 rfl (Nat.le_of_ble_eq_true rfl) dX12_readsDigits_12 ⟨Nat.zero_le _, Nat.zero_le _⟩) hS (fun H locs hH hS => ?_)
    refine lv_bipush (v := 48) hx hb dX12_readsDigits_15 (by decide) ?_
    refine lv_bipush (v := 57) hx hb dX12_readsDigits_17 (by decide) ?_
    refine mt_b1I hf (fun r12 hg11 hf => ?_)
    refine mt_goi (mt_runS (As := [.int r10, .int (48 : Int32), .int (57 : Int32)]) (rest := []) ⟨hx, hb, hml, hown, hts⟩ hI hH (c_X12_isIn l E r10 (48 : Int32) (57 : Int32) M3 u _ hg11) (va_cwS 3 hts gX12_readsDigits_X12_isIn rfl rfl rfl (by decide +kernel) ⟨Nat.le_of_ble_eq_true rfl, Nat.le_of_ble_eq_true rfl⟩) rfl hl.1 rfl (Nat.le_of_ble_eq_true rfl) dX12_readsDigits_19 ⟨Nat.zero_le _, Nat.zero_le _⟩) hS (fun H locs hH hS => ?_)
    refine lv_if_ne (tgt := 27) hx hb dX12_readsDigits_22 (by decide) (fun c13 => ?_) (fun c13 => ?_)
    · have hf := mt_ifF c13 hf
      refine lv_bipush (v := 10) hx hb dX12_readsDigits_27 (by decide) ?_
      refine lv_iload_n hx hb dX12_readsDigits_29 rfl (lv_at hl 3 rfl) ?_
      refine lv_imul hx hb dX12_readsDigits_30 ?_
      refine lv_aload_n hx hb dX12_readsDigits_31 rfl (lv_at hl 0 rfl) ?_
      refine mt_b1I hf (fun r15 hg14 hf => ?_)
      refine mt_goi (mt_runV (i := 147) (As := []) (rest := [.int ((10 : Int32) * x1)]) ⟨hx, hb, hml, hown, hts⟩ hI hH (c_X12_next l E M3 u _ hg14) (cwV 0 hts gX12_readsDigits_X12_next rfl rfl rfl (by decide +kernel) ⟨Nat.le_of_ble_eq_true rfl, Nat.le_of_ble_eq_true rfl⟩) mt_T147 rfl rfl hl.1 rfl (Nat.le_of_ble_eq_true rfl) dX12_readsDigits_32 ⟨Nat.zero_le _, Nat.zero_le _⟩) hS (fun H locs hH hS => ?_)
      refine lv_iadd hx hb dX12_readsDigits_35 ?_
      refine lv_bipush (v := 48) hx hb dX12_readsDigits_36 (by decide) ?_
      refine lv_isub hx hb dX12_readsDigits_38 ?_
      refine mt_lti hf (fun x16 ex16 hf => ?_)
      refine lv_istore_n (lv' := [(3, .int x16), (0, .ref (E.2.1 147)), (1, .int a1), (2, .int a2), (4, .int x2)]) hx hb dX12_readsDigits_39 rfl hl (by decide) rfl (fun ls hl => ?_)
      refine lv_aload_n hx hb dX12_readsDigits_40 rfl (lv_at hl 1 rfl) ?_
      refine lv_dup hx hb dX12_readsDigits_41 rfl ?_
      refine mt_geti (C := RX12) (T := TX12) (N := 29) hx hb hts hinX12 hown hI hH mt_T147 rfl 17 (by decide) kw1 rfl rfl dX12_readsDigits_42 ?_
      refine lv_iconst (v := 1) hx hb dX12_readsDigits_45 (by decide) ?_
      refine lv_iadd hx hb dX12_readsDigits_46 ?_
      refine mt_puti (ty := .int) (C := RX12) (T := TX12) (N := 29) hx hb hts hinX12 tyX12 tyX12_ok nmX12 hown hI hH hS mt_T147 rfl 17 (by decide) kw1 rfl rfl (by decide +kernel) rfl rfl rfl dX12_readsDigits_47 (fun H locs hH hS => ?_)
      refine mt_ltI hf (fun M17 eM17 hf => ?_)
      rw [← eM17] at hH
      refine mt_ltI hf (fun x18 ex18 hf => ?_)
      refine lv_iinc (v := x18) (lv' := [(4, .int x18), (3, .int x16), (0, .ref (E.2.1 147)), (1, .int a1), (2, .int a2)]) hx hb dX12_readsDigits_50 hl (k := 4) rfl (by rw [ex18]; rfl) (by decide) rfl (fun ls hl => ?_)
      refine lv_goto (tgt := 5) hx hb dX12_readsDigits_53 (by decide) ?_
      exact ih5 x16 x18 M17 hf _ _ _ hH hS (lv_sub hl [2, 3, 4, 1, 0] rfl)
    · have hf := mt_ifT c13 hf
      refine lv_iconst (v := 0) hx hb dX12_readsDigits_25 (by decide) ?_
      obtain ⟨i1, i2⟩ := mt_so2 hf
      subst i1
      subst i2
      exact mt_zret hx hb hr hI hH hS (by decide) hlocks dX12_readsDigits_26
set_option maxHeartbeats 4000000 in
set_option maxRecDepth 100000 in
theorem c_X12_readsAll (l : Launch) (E : mt_E) (a1 : Int32) (a2 : Int32) (M : mt_M) (u : mt_U) (r : Int32) (M' : mt_M) (hf : f_X12_readsAll a1 a2 M = some (r, M')) : Met l yX12_readsAll wsX12_readsAll ({ frames := 2, cells := 0, slots := 0, locals := 46 } : Room) (mt_P E [.ref (E.2.1 147), .int a1, .int a2] M u) (mt_Qi E r M' u) 0 0 (mt_A E) := by
  refine Met.ofW (cc := cX12_readsAll) (maxL := 3) (ret := (some .boolean)) (by decide) rfl ?_
  intro p e s mid args below meth c0 s₁ B hml hv
  obtain ⟨rfl, hI, hH⟩ := hv
  have hx := B.exec
  have hb := B.bytes
  have hr := B.returns
  have hts := atoms_spec (ws := wsX12_readsAll) B.pre
  have hown : s.vm.findClass RX12 = some mid.cls := findClass_of_methodNamed B.named
  have hlocks := B.notSynchronized
  have hS : va_S (mt_A E) s.heap s.heap [] := va_S.rf
  have hl := lv_entry ([.ref (E.2.1 147), .int a1, .int a2]) (n := 3) (Nat.le_of_ble_eq_true rfl)
  rw [lg_entry_eq]
  generalize (lg_sl ([.ref (E.2.1 147), .int a1, .int a2]) ++ List.replicate (3 - (lg_sl ([.ref (E.2.1 147), .int a1, .int a2])).length) Slot.unset).toArray = ls at hl ⊢
  have hl : lv_has ls 3 [(0, .ref (E.2.1 147)), (1, .int a1), (2, .int a2)] := hl
  unfold f_X12_readsAll at hf
  refine lv_iload_n hx hb dX12_readsAll_0 rfl (lv_at hl 1 rfl) ?_
  by_cases c1 : a1 = (106 : Int32)
  · have hf := mt_ifT c1 hf
    refine lv_tableIn (off := 164) (tgt := 165) hx hb dX12_readsAll_1 (by rw [c1]; decide) (by rw [c1]; decide) (by rw [c1]; rfl) (by decide) ?_
    refine lv_iconst (v := 1) hx hb dX12_readsAll_165 (by decide) ?_
    obtain ⟨i1, i2⟩ := mt_so2 hf
    subst i1
    subst i2
    exact mt_zret hx hb hr hI hH hS (by decide) hlocks dX12_readsAll_166
  · have hf := mt_ifF c1 hf
    by_cases c2 : a1 = (107 : Int32)
    · have hf := mt_ifT c2 hf
      refine lv_tableIn (off := 112) (tgt := 113) hx hb dX12_readsAll_1 (by rw [c2]; decide) (by rw [c2]; decide) (by rw [c2]; rfl) (by decide) ?_
      refine lv_aload_n hx hb dX12_readsAll_113 rfl (lv_at hl 0 rfl) ?_
      refine lv_iload_n hx hb dX12_readsAll_114 rfl (lv_at hl 2 rfl) ?_
      refine lv_iconst (v := 1) hx hb dX12_readsAll_115 (by decide) ?_
      refine mt_b2I hf (fun r4 M5 hg3 hf => ?_)
      refine mt_goi (mt_runV (i := 147) (As := [.int a2, .int (1 : Int32)]) (rest := []) ⟨hx, hb, hml, hown, hts⟩ hI hH (c_X12_readsDigits l E a2 (1 : Int32) M u _ _ hg3) (cwV 2 hts gX12_readsAll_X12_readsDigits rfl rfl rfl (by decide +kernel) ⟨Nat.le_of_ble_eq_true rfl, Nat.le_of_ble_eq_true rfl⟩) mt_T147 rfl rfl hl.1 rfl (Nat.le_of_ble_eq_true rfl) dX12_readsAll_116 ⟨Nat.zero_le _, Nat.zero_le _⟩) hS (fun H locs hH hS => ?_)
      refine lv_if_eq (tgt := 137) hx hb dX12_readsAll_119 (by decide) (fun c6 => ?_) (fun c6 => ?_)
      · have hf := mt_ifT c6 hf
        refine lv_iconst (v := 0) hx hb dX12_readsAll_137 (by decide) ?_
        obtain ⟨i1, i2⟩ := mt_so2 hf
        subst i1
        subst i2
        exact mt_zret hx hb hr hI hH hS (by decide) hlocks dX12_readsAll_138
      · have hf := mt_ifF c6 hf
        refine lv_aload_n hx hb dX12_readsAll_122 rfl (lv_at hl 0 rfl) ?_
        refine lv_iload_n hx hb dX12_readsAll_123 rfl (lv_at hl 2 rfl) ?_
        refine lv_iconst (v := 1) hx hb dX12_readsAll_124 (by decide) ?_
        refine lv_iadd hx hb dX12_readsAll_125 ?_
        refine lv_iconst (v := 1) hx hb dX12_readsAll_126 (by decide) ?_
        refine mt_b2I hf (fun r8 M9 hg7 hf => ?_)
        refine mt_goi (mt_runV (i := 147) (As := [.int (a2 + (1 : Int32)), .int (1 : Int32)]) (rest := []) ⟨hx, hb, hml, hown, hts⟩ hI hH (c_X12_readsDigits l E (a2 + (1 : Int32)) (1 : Int32) M5 u _ _ hg7) (cwV 2 hts gX12_readsAll_X12_readsDigits rfl rfl rfl (by decide +kernel) ⟨Nat.le_of_ble_eq_true rfl, Nat.le_of_ble_eq_true rfl⟩) mt_T147 rfl rfl hl.1 rfl (Nat.le_of_ble_eq_true rfl) dX12_readsAll_127 ⟨Nat.zero_le _, Nat.zero_le _⟩) hS (fun H locs hH hS => ?_)
        refine lv_if_eq (tgt := 137) hx hb dX12_readsAll_130 (by decide) (fun c10 => ?_) (fun c10 => ?_)
        · have hf := mt_ifT c10 hf
          refine lv_iconst (v := 0) hx hb dX12_readsAll_137 (by decide) ?_
          obtain ⟨i1, i2⟩ := mt_so2 hf
          subst i1
          subst i2
          exact mt_zret hx hb hr hI hH hS (by decide) hlocks dX12_readsAll_138
        · have hf := mt_ifF c10 hf
          refine lv_iconst (v := 1) hx hb dX12_readsAll_133 (by decide) ?_
          refine lv_goto (tgt := 138) hx hb dX12_readsAll_134 (by decide) ?_
          obtain ⟨i1, i2⟩ := mt_so2 hf
          subst i1
          subst i2
          exact mt_zret hx hb hr hI hH hS (by decide) hlocks dX12_readsAll_138
    · have hf := mt_ifF c2 hf
      by_cases c11 : a1 = (108 : Int32)
      · have hf := mt_ifT c11 hf
        refine lv_tableIn (off := 166) (tgt := 167) hx hb dX12_readsAll_1 (by rw [c11]; decide) (by rw [c11]; decide) (by rw [c11]; rfl) (by decide) ?_
        refine lv_aload_n hx hb dX12_readsAll_167 rfl (lv_at hl 0 rfl) ?_
        refine lv_iload_n hx hb dX12_readsAll_168 rfl (lv_at hl 2 rfl) ?_
        refine lv_iconst (v := 1) hx hb dX12_readsAll_169 (by decide) ?_
        refine mt_b2I hf (fun r13 M14 hg12 hf => ?_)
        refine mt_goi (mt_runV (i := 147) (As := [.int a2, .int (1 : Int32)]) (rest := []) ⟨hx, hb, hml, hown, hts⟩ hI hH (c_X12_readsDigits l E a2 (1 : Int32) M u _ _ hg12) (cwV 2 hts gX12_readsAll_X12_readsDigits rfl rfl rfl (by decide +kernel) ⟨Nat.le_of_ble_eq_true rfl, Nat.le_of_ble_eq_true rfl⟩) mt_T147 rfl rfl hl.1 rfl (Nat.le_of_ble_eq_true rfl) dX12_readsAll_170 ⟨Nat.zero_le _, Nat.zero_le _⟩) hS (fun H locs hH hS => ?_)
        refine mt_ckI hf (fun q15 hf => ?_)
        obtain ⟨i1, i2⟩ := mt_so2 hf
        subst i1
        subst i2
        exact mt_zret hx hb hr hI hH hS q15 hlocks dX12_readsAll_173
      · have hf := mt_ifF c11 hf
        by_cases c16 : a1 = (109 : Int32)
        · have hf := mt_ifT c16 hf
          refine lv_tableIn (off := 166) (tgt := 167) hx hb dX12_readsAll_1 (by rw [c16]; decide) (by rw [c16]; decide) (by rw [c16]; rfl) (by decide) ?_
          refine lv_aload_n hx hb dX12_readsAll_167 rfl (lv_at hl 0 rfl) ?_
          refine lv_iload_n hx hb dX12_readsAll_168 rfl (lv_at hl 2 rfl) ?_
          refine lv_iconst (v := 1) hx hb dX12_readsAll_169 (by decide) ?_
          refine mt_b2I hf (fun r18 M19 hg17 hf => ?_)
          refine mt_goi (mt_runV (i := 147) (As := [.int a2, .int (1 : Int32)]) (rest := []) ⟨hx, hb, hml, hown, hts⟩ hI hH (c_X12_readsDigits l E a2 (1 : Int32) M u _ _ hg17) (cwV 2 hts gX12_readsAll_X12_readsDigits rfl rfl rfl (by decide +kernel) ⟨Nat.le_of_ble_eq_true rfl, Nat.le_of_ble_eq_true rfl⟩) mt_T147 rfl rfl hl.1 rfl (Nat.le_of_ble_eq_true rfl) dX12_readsAll_170 ⟨Nat.zero_le _, Nat.zero_le _⟩) hS (fun H locs hH hS => ?_)
          refine mt_ckI hf (fun q20 hf => ?_)
          obtain ⟨i1, i2⟩ := mt_so2 hf
          subst i1
          subst i2
          exact mt_zret hx hb hr hI hH hS q20 hlocks dX12_readsAll_173
        · have hf := mt_ifF c16 hf
          by_cases c21 : a1 = (110 : Int32)
          · have hf := mt_ifT c21 hf
            refine lv_tableIn (off := 166) (tgt := 167) hx hb dX12_readsAll_1 (by rw [c21]; decide) (by rw [c21]; decide) (by rw [c21]; rfl) (by decide) ?_
            refine lv_aload_n hx hb dX12_readsAll_167 rfl (lv_at hl 0 rfl) ?_
            refine lv_iload_n hx hb dX12_readsAll_168 rfl (lv_at hl 2 rfl) ?_
            refine lv_iconst (v := 1) hx hb dX12_readsAll_169 (by decide) ?_
            refine mt_b2I hf (fun r23 M24 hg22 hf => ?_)
            refine mt_goi (mt_runV (i := 147) (As := [.int a2, .int (1 : Int32)]) (rest := []) ⟨hx, hb, hml, hown, hts⟩ hI hH (c_X12_readsDigits l E a2 (1 : Int32) M u _ _ hg22) (cwV 2 hts gX12_readsAll_X12_readsDigits rfl rfl rfl (by decide +kernel) ⟨Nat.le_of_ble_eq_true rfl, Nat.le_of_ble_eq_true rfl⟩) mt_T147 rfl rfl hl.1 rfl (Nat.le_of_ble_eq_true rfl) dX12_readsAll_170 ⟨Nat.zero_le _, Nat.zero_le _⟩) hS (fun H locs hH hS => ?_)
            refine mt_ckI hf (fun q25 hf => ?_)
            obtain ⟨i1, i2⟩ := mt_so2 hf
            subst i1
            subst i2
            exact mt_zret hx hb hr hI hH hS q25 hlocks dX12_readsAll_173
          · have hf := mt_ifF c21 hf
            by_cases c26 : a1 = (111 : Int32)
            · have hf := mt_ifT c26 hf
              refine lv_tableIn (off := 166) (tgt := 167) hx hb dX12_readsAll_1 (by rw [c26]; decide) (by rw [c26]; decide) (by rw [c26]; rfl) (by decide) ?_
              refine lv_aload_n hx hb dX12_readsAll_167 rfl (lv_at hl 0 rfl) ?_
              refine lv_iload_n hx hb dX12_readsAll_168 rfl (lv_at hl 2 rfl) ?_
              refine lv_iconst (v := 1) hx hb dX12_readsAll_169 (by decide) ?_
              refine mt_b2I hf (fun r28 M29 hg27 hf => ?_)
              refine mt_goi (mt_runV (i := 147) (As := [.int a2, .int (1 : Int32)]) (rest := []) ⟨hx, hb, hml, hown, hts⟩ hI hH (c_X12_readsDigits l E a2 (1 : Int32) M u _ _ hg27) (cwV 2 hts gX12_readsAll_X12_readsDigits rfl rfl rfl (by decide +kernel) ⟨Nat.le_of_ble_eq_true rfl, Nat.le_of_ble_eq_true rfl⟩) mt_T147 rfl rfl hl.1 rfl (Nat.le_of_ble_eq_true rfl) dX12_readsAll_170 ⟨Nat.zero_le _, Nat.zero_le _⟩) hS (fun H locs hH hS => ?_)
              refine mt_ckI hf (fun q30 hf => ?_)
              obtain ⟨i1, i2⟩ := mt_so2 hf
              subst i1
              subst i2
              exact mt_zret hx hb hr hI hH hS q30 hlocks dX12_readsAll_173
            · have hf := mt_ifF c26 hf
              by_cases c31 : a1 = (112 : Int32)
              · have hf := mt_ifT c31 hf
                refine lv_tableIn (off := 166) (tgt := 167) hx hb dX12_readsAll_1 (by rw [c31]; decide) (by rw [c31]; decide) (by rw [c31]; rfl) (by decide) ?_
                refine lv_aload_n hx hb dX12_readsAll_167 rfl (lv_at hl 0 rfl) ?_
                refine lv_iload_n hx hb dX12_readsAll_168 rfl (lv_at hl 2 rfl) ?_
                refine lv_iconst (v := 1) hx hb dX12_readsAll_169 (by decide) ?_
                refine mt_b2I hf (fun r33 M34 hg32 hf => ?_)
                refine mt_goi (mt_runV (i := 147) (As := [.int a2, .int (1 : Int32)]) (rest := []) ⟨hx, hb, hml, hown, hts⟩ hI hH (c_X12_readsDigits l E a2 (1 : Int32) M u _ _ hg32) (cwV 2 hts gX12_readsAll_X12_readsDigits rfl rfl rfl (by decide +kernel) ⟨Nat.le_of_ble_eq_true rfl, Nat.le_of_ble_eq_true rfl⟩) mt_T147 rfl rfl hl.1 rfl (Nat.le_of_ble_eq_true rfl) dX12_readsAll_170 ⟨Nat.zero_le _, Nat.zero_le _⟩) hS (fun H locs hH hS => ?_)
                refine mt_ckI hf (fun q35 hf => ?_)
                obtain ⟨i1, i2⟩ := mt_so2 hf
                subst i1
                subst i2
                exact mt_zret hx hb hr hI hH hS q35 hlocks dX12_readsAll_173
              · have hf := mt_ifF c31 hf
                by_cases c36 : a1 = (113 : Int32)
                · have hf := mt_ifT c36 hf
                  refine lv_tableIn (off := 166) (tgt := 167) hx hb dX12_readsAll_1 (by rw [c36]; decide) (by rw [c36]; decide) (by rw [c36]; rfl) (by decide) ?_
                  refine lv_aload_n hx hb dX12_readsAll_167 rfl (lv_at hl 0 rfl) ?_
                  refine lv_iload_n hx hb dX12_readsAll_168 rfl (lv_at hl 2 rfl) ?_
                  refine lv_iconst (v := 1) hx hb dX12_readsAll_169 (by decide) ?_
                  refine mt_b2I hf (fun r38 M39 hg37 hf => ?_)
                  refine mt_goi (mt_runV (i := 147) (As := [.int a2, .int (1 : Int32)]) (rest := []) ⟨hx, hb, hml, hown, hts⟩ hI hH (c_X12_readsDigits l E a2 (1 : Int32) M u _ _ hg37) (cwV 2 hts gX12_readsAll_X12_readsDigits rfl rfl rfl (by decide +kernel) ⟨Nat.le_of_ble_eq_true rfl, Nat.le_of_ble_eq_true rfl⟩) mt_T147 rfl rfl hl.1 rfl (Nat.le_of_ble_eq_true rfl) dX12_readsAll_170 ⟨Nat.zero_le _, Nat.zero_le _⟩) hS (fun H locs hH hS => ?_)
                  refine mt_ckI hf (fun q40 hf => ?_)
                  obtain ⟨i1, i2⟩ := mt_so2 hf
                  subst i1
                  subst i2
                  exact mt_zret hx hb hr hI hH hS q40 hlocks dX12_readsAll_173
                · have hf := mt_ifF c36 hf
                  by_cases c41 : a1 = (114 : Int32)
                  · have hf := mt_ifT c41 hf
                    refine lv_tableIn (off := 166) (tgt := 167) hx hb dX12_readsAll_1 (by rw [c41]; decide) (by rw [c41]; decide) (by rw [c41]; rfl) (by decide) ?_
                    refine lv_aload_n hx hb dX12_readsAll_167 rfl (lv_at hl 0 rfl) ?_
                    refine lv_iload_n hx hb dX12_readsAll_168 rfl (lv_at hl 2 rfl) ?_
                    refine lv_iconst (v := 1) hx hb dX12_readsAll_169 (by decide) ?_
                    refine mt_b2I hf (fun r43 M44 hg42 hf => ?_)
                    refine mt_goi (mt_runV (i := 147) (As := [.int a2, .int (1 : Int32)]) (rest := []) ⟨hx, hb, hml, hown, hts⟩ hI hH (c_X12_readsDigits l E a2 (1 : Int32) M u _ _ hg42) (cwV 2 hts gX12_readsAll_X12_readsDigits rfl rfl rfl (by decide +kernel) ⟨Nat.le_of_ble_eq_true rfl, Nat.le_of_ble_eq_true rfl⟩) mt_T147 rfl rfl hl.1 rfl (Nat.le_of_ble_eq_true rfl) dX12_readsAll_170 ⟨Nat.zero_le _, Nat.zero_le _⟩) hS (fun H locs hH hS => ?_)
                    refine mt_ckI hf (fun q45 hf => ?_)
                    obtain ⟨i1, i2⟩ := mt_so2 hf
                    subst i1
                    subst i2
                    exact mt_zret hx hb hr hI hH hS q45 hlocks dX12_readsAll_173
                  · have hf := mt_ifF c41 hf
                    by_cases c46 : a1 = (115 : Int32)
                    · have hf := mt_ifT c46 hf
                      refine lv_tableIn (off := 138) (tgt := 139) hx hb dX12_readsAll_1 (by rw [c46]; decide) (by rw [c46]; decide) (by rw [c46]; rfl) (by decide) ?_
                      refine lv_aload_n hx hb dX12_readsAll_139 rfl (lv_at hl 0 rfl) ?_
                      refine lv_iload_n hx hb dX12_readsAll_140 rfl (lv_at hl 2 rfl) ?_
                      refine lv_iconst (v := 1) hx hb dX12_readsAll_141 (by decide) ?_
                      refine mt_b2I hf (fun r48 M49 hg47 hf => ?_)
                      refine mt_goi (mt_runV (i := 147) (As := [.int a2, .int (1 : Int32)]) (rest := []) ⟨hx, hb, hml, hown, hts⟩ hI hH (c_X12_readsDigits l E a2 (1 : Int32) M u _ _ hg47) (cwV 2 hts gX12_readsAll_X12_readsDigits rfl rfl rfl (by decide +kernel) ⟨Nat.le_of_ble_eq_true rfl, Nat.le_of_ble_eq_true rfl⟩) mt_T147 rfl rfl hl.1 rfl (Nat.le_of_ble_eq_true rfl) dX12_readsAll_142 ⟨Nat.zero_le _, Nat.zero_le _⟩) hS (fun H locs hH hS => ?_)
                      refine lv_if_eq (tgt := 163) hx hb dX12_readsAll_145 (by decide) (fun c50 => ?_) (fun c50 => ?_)
                      · have hf := mt_ifT c50 hf
                        refine lv_iconst (v := 0) hx hb dX12_readsAll_163 (by decide) ?_
                        obtain ⟨i1, i2⟩ := mt_so2 hf
                        subst i1
                        subst i2
                        exact mt_zret hx hb hr hI hH hS (by decide) hlocks dX12_readsAll_164
                      · have hf := mt_ifF c50 hf
                        refine lv_aload_n hx hb dX12_readsAll_148 rfl (lv_at hl 0 rfl) ?_
                        refine lv_iload_n hx hb dX12_readsAll_149 rfl (lv_at hl 2 rfl) ?_
                        refine lv_iconst (v := 1) hx hb dX12_readsAll_150 (by decide) ?_
                        refine lv_iadd hx hb dX12_readsAll_151 ?_
                        refine lv_iconst (v := 2) hx hb dX12_readsAll_152 (by decide) ?_
                        refine mt_b2I hf (fun r52 M53 hg51 hf => ?_)
                        refine mt_goi (mt_runV (i := 147) (As := [.int (a2 + (1 : Int32)), .int (2 : Int32)]) (rest := []) ⟨hx, hb, hml, hown, hts⟩ hI hH (c_X12_readsDigits l E (a2 + (1 : Int32)) (2 : Int32) M49 u _ _ hg51) (cwV 2 hts gX12_readsAll_X12_readsDigits rfl rfl rfl (by decide +kernel) ⟨Nat.le_of_ble_eq_true rfl, Nat.le_of_ble_eq_true rfl⟩) mt_T147 rfl rfl hl.1 rfl (Nat.le_of_ble_eq_true rfl) dX12_readsAll_153 ⟨Nat.zero_le _, Nat.zero_le _⟩) hS (fun H locs hH hS => ?_)
                        refine lv_if_eq (tgt := 163) hx hb dX12_readsAll_156 (by decide) (fun c54 => ?_) (fun c54 => ?_)
                        · have hf := mt_ifT c54 hf
                          refine lv_iconst (v := 0) hx hb dX12_readsAll_163 (by decide) ?_
                          obtain ⟨i1, i2⟩ := mt_so2 hf
                          subst i1
                          subst i2
                          exact mt_zret hx hb hr hI hH hS (by decide) hlocks dX12_readsAll_164
                        · have hf := mt_ifF c54 hf
                          refine lv_iconst (v := 1) hx hb dX12_readsAll_159 (by decide) ?_
                          refine lv_goto (tgt := 164) hx hb dX12_readsAll_160 (by decide) ?_
                          obtain ⟨i1, i2⟩ := mt_so2 hf
                          subst i1
                          subst i2
                          exact mt_zret hx hb hr hI hH hS (by decide) hlocks dX12_readsAll_164
                    · have hf := mt_ifF c46 hf
                      by_cases c55 : a1 = (116 : Int32)
                      · have hf := mt_ifT c55 hf
                        refine lv_tableIn (off := 75) (tgt := 76) hx hb dX12_readsAll_1 (by rw [c55]; decide) (by rw [c55]; decide) (by rw [c55]; rfl) (by decide) ?_
                        refine lv_aload_n hx hb dX12_readsAll_76 rfl (lv_at hl 0 rfl) ?_
                        refine lv_iload_n hx hb dX12_readsAll_77 rfl (lv_at hl 2 rfl) ?_
                        refine lv_iconst (v := 1) hx hb dX12_readsAll_78 (by decide) ?_
                        refine mt_b2I hf (fun r57 M58 hg56 hf => ?_)
                        refine mt_goi (mt_runV (i := 147) (As := [.int a2, .int (1 : Int32)]) (rest := []) ⟨hx, hb, hml, hown, hts⟩ hI hH (c_X12_readsDigits l E a2 (1 : Int32) M u _ _ hg56) (cwV 2 hts gX12_readsAll_X12_readsDigits rfl rfl rfl (by decide +kernel) ⟨Nat.le_of_ble_eq_true rfl, Nat.le_of_ble_eq_true rfl⟩) mt_T147 rfl rfl hl.1 rfl (Nat.le_of_ble_eq_true rfl) dX12_readsAll_79 ⟨Nat.zero_le _, Nat.zero_le _⟩) hS (fun H locs hH hS => ?_)
                        refine lv_if_eq (tgt := 111) hx hb dX12_readsAll_82 (by decide) (fun c59 => ?_) (fun c59 => ?_)
                        · have hf := mt_ifT c59 hf
                          refine lv_iconst (v := 0) hx hb dX12_readsAll_111 (by decide) ?_
                          obtain ⟨i1, i2⟩ := mt_so2 hf
                          subst i1
                          subst i2
                          exact mt_zret hx hb hr hI hH hS (by decide) hlocks dX12_readsAll_112
                        · have hf := mt_ifF c59 hf
                          refine lv_aload_n hx hb dX12_readsAll_85 rfl (lv_at hl 0 rfl) ?_
                          refine lv_iload_n hx hb dX12_readsAll_86 rfl (lv_at hl 2 rfl) ?_
                          refine lv_iconst (v := 1) hx hb dX12_readsAll_87 (by decide) ?_
                          refine lv_iadd hx hb dX12_readsAll_88 ?_
                          refine lv_iconst (v := 1) hx hb dX12_readsAll_89 (by decide) ?_
                          refine mt_b2I hf (fun r61 M62 hg60 hf => ?_)
                          refine mt_goi (mt_runV (i := 147) (As := [.int (a2 + (1 : Int32)), .int (1 : Int32)]) (rest := []) ⟨hx, hb, hml, hown, hts⟩ hI hH (c_X12_readsDigits l E (a2 + (1 : Int32)) (1 : Int32) M58 u _ _ hg60) (cwV 2 hts gX12_readsAll_X12_readsDigits rfl rfl rfl (by decide +kernel) ⟨Nat.le_of_ble_eq_true rfl, Nat.le_of_ble_eq_true rfl⟩) mt_T147 rfl rfl hl.1 rfl (Nat.le_of_ble_eq_true rfl) dX12_readsAll_90 ⟨Nat.zero_le _, Nat.zero_le _⟩) hS (fun H locs hH hS => ?_)
                          refine lv_if_eq (tgt := 111) hx hb dX12_readsAll_93 (by decide) (fun c63 => ?_) (fun c63 => ?_)
                          · have hf := mt_ifT c63 hf
                            refine lv_iconst (v := 0) hx hb dX12_readsAll_111 (by decide) ?_
                            obtain ⟨i1, i2⟩ := mt_so2 hf
                            subst i1
                            subst i2
                            exact mt_zret hx hb hr hI hH hS (by decide) hlocks dX12_readsAll_112
                          · have hf := mt_ifF c63 hf
                            refine lv_aload_n hx hb dX12_readsAll_96 rfl (lv_at hl 0 rfl) ?_
                            refine lv_iload_n hx hb dX12_readsAll_97 rfl (lv_at hl 2 rfl) ?_
                            refine lv_iconst (v := 2) hx hb dX12_readsAll_98 (by decide) ?_
                            refine lv_iadd hx hb dX12_readsAll_99 ?_
                            refine lv_iconst (v := 1) hx hb dX12_readsAll_100 (by decide) ?_
                            refine mt_b2I hf (fun r65 M66 hg64 hf => ?_)
                            refine mt_goi (mt_runV (i := 147) (As := [.int (a2 + (2 : Int32)), .int (1 : Int32)]) (rest := []) ⟨hx, hb, hml, hown, hts⟩ hI hH (c_X12_readsDigits l E (a2 + (2 : Int32)) (1 : Int32) M62 u _ _ hg64) (cwV 2 hts gX12_readsAll_X12_readsDigits rfl rfl rfl (by decide +kernel) ⟨Nat.le_of_ble_eq_true rfl, Nat.le_of_ble_eq_true rfl⟩) mt_T147 rfl rfl hl.1 rfl (Nat.le_of_ble_eq_true rfl) dX12_readsAll_101 ⟨Nat.zero_le _, Nat.zero_le _⟩) hS (fun H locs hH hS => ?_)
                            refine lv_if_eq (tgt := 111) hx hb dX12_readsAll_104 (by decide) (fun c67 => ?_) (fun c67 => ?_)
                            · have hf := mt_ifT c67 hf
                              refine lv_iconst (v := 0) hx hb dX12_readsAll_111 (by decide) ?_
                              obtain ⟨i1, i2⟩ := mt_so2 hf
                              subst i1
                              subst i2
                              exact mt_zret hx hb hr hI hH hS (by decide) hlocks dX12_readsAll_112
                            · have hf := mt_ifF c67 hf
                              refine lv_iconst (v := 1) hx hb dX12_readsAll_107 (by decide) ?_
                              refine lv_goto (tgt := 112) hx hb dX12_readsAll_108 (by decide) ?_
                              obtain ⟨i1, i2⟩ := mt_so2 hf
                              subst i1
                              subst i2
                              exact mt_zret hx hb hr hI hH hS (by decide) hlocks dX12_readsAll_112
                      · have hf := mt_ifF c55 hf
                        by_cases c68 : a1 = (117 : Int32)
                        · have hf := mt_ifT c68 hf
                          refine lv_tableIn (off := 166) (tgt := 167) hx hb dX12_readsAll_1 (by rw [c68]; decide) (by rw [c68]; decide) (by rw [c68]; rfl) (by decide) ?_
                          refine lv_aload_n hx hb dX12_readsAll_167 rfl (lv_at hl 0 rfl) ?_
                          refine lv_iload_n hx hb dX12_readsAll_168 rfl (lv_at hl 2 rfl) ?_
                          refine lv_iconst (v := 1) hx hb dX12_readsAll_169 (by decide) ?_
                          refine mt_b2I hf (fun r70 M71 hg69 hf => ?_)
                          refine mt_goi (mt_runV (i := 147) (As := [.int a2, .int (1 : Int32)]) (rest := []) ⟨hx, hb, hml, hown, hts⟩ hI hH (c_X12_readsDigits l E a2 (1 : Int32) M u _ _ hg69) (cwV 2 hts gX12_readsAll_X12_readsDigits rfl rfl rfl (by decide +kernel) ⟨Nat.le_of_ble_eq_true rfl, Nat.le_of_ble_eq_true rfl⟩) mt_T147 rfl rfl hl.1 rfl (Nat.le_of_ble_eq_true rfl) dX12_readsAll_170 ⟨Nat.zero_le _, Nat.zero_le _⟩) hS (fun H locs hH hS => ?_)
                          refine mt_ckI hf (fun q72 hf => ?_)
                          obtain ⟨i1, i2⟩ := mt_so2 hf
                          subst i1
                          subst i2
                          exact mt_zret hx hb hr hI hH hS q72 hlocks dX12_readsAll_173
                        · have hf := mt_ifF c68 hf
                          by_cases c73 : a1 = (118 : Int32)
                          · have hf := mt_ifT c73 hf
                            refine lv_tableIn (off := 166) (tgt := 167) hx hb dX12_readsAll_1 (by rw [c73]; decide) (by rw [c73]; decide) (by rw [c73]; rfl) (by decide) ?_
                            refine lv_aload_n hx hb dX12_readsAll_167 rfl (lv_at hl 0 rfl) ?_
                            refine lv_iload_n hx hb dX12_readsAll_168 rfl (lv_at hl 2 rfl) ?_
                            refine lv_iconst (v := 1) hx hb dX12_readsAll_169 (by decide) ?_
                            refine mt_b2I hf (fun r75 M76 hg74 hf => ?_)
                            refine mt_goi (mt_runV (i := 147) (As := [.int a2, .int (1 : Int32)]) (rest := []) ⟨hx, hb, hml, hown, hts⟩ hI hH (c_X12_readsDigits l E a2 (1 : Int32) M u _ _ hg74) (cwV 2 hts gX12_readsAll_X12_readsDigits rfl rfl rfl (by decide +kernel) ⟨Nat.le_of_ble_eq_true rfl, Nat.le_of_ble_eq_true rfl⟩) mt_T147 rfl rfl hl.1 rfl (Nat.le_of_ble_eq_true rfl) dX12_readsAll_170 ⟨Nat.zero_le _, Nat.zero_le _⟩) hS (fun H locs hH hS => ?_)
                            refine mt_ckI hf (fun q77 hf => ?_)
                            obtain ⟨i1, i2⟩ := mt_so2 hf
                            subst i1
                            subst i2
                            exact mt_zret hx hb hr hI hH hS q77 hlocks dX12_readsAll_173
                          · have hf := mt_ifF c73 hf
                            by_cases c78 : a1 = (119 : Int32)
                            · have hf := mt_ifT c78 hf
                              refine lv_tableIn (off := 112) (tgt := 113) hx hb dX12_readsAll_1 (by rw [c78]; decide) (by rw [c78]; decide) (by rw [c78]; rfl) (by decide) ?_
                              refine lv_aload_n hx hb dX12_readsAll_113 rfl (lv_at hl 0 rfl) ?_
                              refine lv_iload_n hx hb dX12_readsAll_114 rfl (lv_at hl 2 rfl) ?_
                              refine lv_iconst (v := 1) hx hb dX12_readsAll_115 (by decide) ?_
                              refine mt_b2I hf (fun r80 M81 hg79 hf => ?_)
                              refine mt_goi (mt_runV (i := 147) (As := [.int a2, .int (1 : Int32)]) (rest := []) ⟨hx, hb, hml, hown, hts⟩ hI hH (c_X12_readsDigits l E a2 (1 : Int32) M u _ _ hg79) (cwV 2 hts gX12_readsAll_X12_readsDigits rfl rfl rfl (by decide +kernel) ⟨Nat.le_of_ble_eq_true rfl, Nat.le_of_ble_eq_true rfl⟩) mt_T147 rfl rfl hl.1 rfl (Nat.le_of_ble_eq_true rfl) dX12_readsAll_116 ⟨Nat.zero_le _, Nat.zero_le _⟩) hS (fun H locs hH hS => ?_)
                              refine lv_if_eq (tgt := 137) hx hb dX12_readsAll_119 (by decide) (fun c82 => ?_) (fun c82 => ?_)
                              · have hf := mt_ifT c82 hf
                                refine lv_iconst (v := 0) hx hb dX12_readsAll_137 (by decide) ?_
                                obtain ⟨i1, i2⟩ := mt_so2 hf
                                subst i1
                                subst i2
                                exact mt_zret hx hb hr hI hH hS (by decide) hlocks dX12_readsAll_138
                              · have hf := mt_ifF c82 hf
                                refine lv_aload_n hx hb dX12_readsAll_122 rfl (lv_at hl 0 rfl) ?_
                                refine lv_iload_n hx hb dX12_readsAll_123 rfl (lv_at hl 2 rfl) ?_
                                refine lv_iconst (v := 1) hx hb dX12_readsAll_124 (by decide) ?_
                                refine lv_iadd hx hb dX12_readsAll_125 ?_
                                refine lv_iconst (v := 1) hx hb dX12_readsAll_126 (by decide) ?_
                                refine mt_b2I hf (fun r84 M85 hg83 hf => ?_)
                                refine mt_goi (mt_runV (i := 147) (As := [.int (a2 + (1 : Int32)), .int (1 : Int32)]) (rest := []) ⟨hx, hb, hml, hown, hts⟩ hI hH (c_X12_readsDigits l E (a2 + (1 : Int32)) (1 : Int32) M81 u _ _ hg83) (cwV 2 hts gX12_readsAll_X12_readsDigits rfl rfl rfl (by decide +kernel) ⟨Nat.le_of_ble_eq_true rfl, Nat.le_of_ble_eq_true rfl⟩) mt_T147 rfl rfl hl.1 rfl (Nat.le_of_ble_eq_true rfl) dX12_readsAll_127 ⟨Nat.zero_le _, Nat.zero_le _⟩) hS (fun H locs hH hS => ?_)
                                refine lv_if_eq (tgt := 137) hx hb dX12_readsAll_130 (by decide) (fun c86 => ?_) (fun c86 => ?_)
                                · have hf := mt_ifT c86 hf
                                  refine lv_iconst (v := 0) hx hb dX12_readsAll_137 (by decide) ?_
                                  obtain ⟨i1, i2⟩ := mt_so2 hf
                                  subst i1
                                  subst i2
                                  exact mt_zret hx hb hr hI hH hS (by decide) hlocks dX12_readsAll_138
                                · have hf := mt_ifF c86 hf
                                  refine lv_iconst (v := 1) hx hb dX12_readsAll_133 (by decide) ?_
                                  refine lv_goto (tgt := 138) hx hb dX12_readsAll_134 (by decide) ?_
                                  obtain ⟨i1, i2⟩ := mt_so2 hf
                                  subst i1
                                  subst i2
                                  exact mt_zret hx hb hr hI hH hS (by decide) hlocks dX12_readsAll_138
                            · have hf := mt_ifF c78 hf
                              by_cases c87 : a1 = (120 : Int32)
                              · have hf := mt_ifT c87 hf
                                refine lv_tableIn (off := 112) (tgt := 113) hx hb dX12_readsAll_1 (by rw [c87]; decide) (by rw [c87]; decide) (by rw [c87]; rfl) (by decide) ?_
                                refine lv_aload_n hx hb dX12_readsAll_113 rfl (lv_at hl 0 rfl) ?_
                                refine lv_iload_n hx hb dX12_readsAll_114 rfl (lv_at hl 2 rfl) ?_
                                refine lv_iconst (v := 1) hx hb dX12_readsAll_115 (by decide) ?_
                                refine mt_b2I hf (fun r89 M90 hg88 hf => ?_)
                                refine mt_goi (mt_runV (i := 147) (As := [.int a2, .int (1 : Int32)]) (rest := []) ⟨hx, hb, hml, hown, hts⟩ hI hH (c_X12_readsDigits l E a2 (1 : Int32) M u _ _ hg88) (cwV 2 hts gX12_readsAll_X12_readsDigits rfl rfl rfl (by decide +kernel) ⟨Nat.le_of_ble_eq_true rfl, Nat.le_of_ble_eq_true rfl⟩) mt_T147 rfl rfl hl.1 rfl (Nat.le_of_ble_eq_true rfl) dX12_readsAll_116 ⟨Nat.zero_le _, Nat.zero_le _⟩) hS (fun H locs hH hS => ?_)
                                refine lv_if_eq (tgt := 137) hx hb dX12_readsAll_119 (by decide) (fun c91 => ?_) (fun c91 => ?_)
                                · have hf := mt_ifT c91 hf
                                  refine lv_iconst (v := 0) hx hb dX12_readsAll_137 (by decide) ?_
                                  obtain ⟨i1, i2⟩ := mt_so2 hf
                                  subst i1
                                  subst i2
                                  exact mt_zret hx hb hr hI hH hS (by decide) hlocks dX12_readsAll_138
                                · have hf := mt_ifF c91 hf
                                  refine lv_aload_n hx hb dX12_readsAll_122 rfl (lv_at hl 0 rfl) ?_
                                  refine lv_iload_n hx hb dX12_readsAll_123 rfl (lv_at hl 2 rfl) ?_
                                  refine lv_iconst (v := 1) hx hb dX12_readsAll_124 (by decide) ?_
                                  refine lv_iadd hx hb dX12_readsAll_125 ?_
                                  refine lv_iconst (v := 1) hx hb dX12_readsAll_126 (by decide) ?_
                                  refine mt_b2I hf (fun r93 M94 hg92 hf => ?_)
                                  refine mt_goi (mt_runV (i := 147) (As := [.int (a2 + (1 : Int32)), .int (1 : Int32)]) (rest := []) ⟨hx, hb, hml, hown, hts⟩ hI hH (c_X12_readsDigits l E (a2 + (1 : Int32)) (1 : Int32) M90 u _ _ hg92) (cwV 2 hts gX12_readsAll_X12_readsDigits rfl rfl rfl (by decide +kernel) ⟨Nat.le_of_ble_eq_true rfl, Nat.le_of_ble_eq_true rfl⟩) mt_T147 rfl rfl hl.1 rfl (Nat.le_of_ble_eq_true rfl) dX12_readsAll_127 ⟨Nat.zero_le _, Nat.zero_le _⟩) hS (fun H locs hH hS => ?_)
                                  refine lv_if_eq (tgt := 137) hx hb dX12_readsAll_130 (by decide) (fun c95 => ?_) (fun c95 => ?_)
                                  · have hf := mt_ifT c95 hf
                                    refine lv_iconst (v := 0) hx hb dX12_readsAll_137 (by decide) ?_
                                    obtain ⟨i1, i2⟩ := mt_so2 hf
                                    subst i1
                                    subst i2
                                    exact mt_zret hx hb hr hI hH hS (by decide) hlocks dX12_readsAll_138
                                  · have hf := mt_ifF c95 hf
                                    refine lv_iconst (v := 1) hx hb dX12_readsAll_133 (by decide) ?_
                                    refine lv_goto (tgt := 138) hx hb dX12_readsAll_134 (by decide) ?_
                                    obtain ⟨i1, i2⟩ := mt_so2 hf
                                    subst i1
                                    subst i2
                                    exact mt_zret hx hb hr hI hH hS (by decide) hlocks dX12_readsAll_138
                              · have hf := mt_ifF c87 hf
                                refine lv_tableOut (tgt := 167) hx hb dX12_readsAll_1 (mt_tabOut (106) (120) (by decide) (by decide) (fun n hn => ?_)) (by decide) ?_
                                · rcases (show n = 0 ∨ n = 1 ∨ n = 2 ∨ n = 3 ∨ n = 4 ∨ n = 5 ∨ n = 6 ∨ n = 7 ∨ n = 8 ∨ n = 9 ∨ n = 10 ∨ n = 11 ∨ n = 12 ∨ n = 13 ∨ n = 14 from by omega) with rfl | rfl | rfl | rfl | rfl | rfl | rfl | rfl | rfl | rfl | rfl | rfl | rfl | rfl | rfl
                                  · exact fun e9 => c1 (e9.trans (by decide))
                                  · exact fun e9 => c2 (e9.trans (by decide))
                                  · exact fun e9 => c11 (e9.trans (by decide))
                                  · exact fun e9 => c16 (e9.trans (by decide))
                                  · exact fun e9 => c21 (e9.trans (by decide))
                                  · exact fun e9 => c26 (e9.trans (by decide))
                                  · exact fun e9 => c31 (e9.trans (by decide))
                                  · exact fun e9 => c36 (e9.trans (by decide))
                                  · exact fun e9 => c41 (e9.trans (by decide))
                                  · exact fun e9 => c46 (e9.trans (by decide))
                                  · exact fun e9 => c55 (e9.trans (by decide))
                                  · exact fun e9 => c68 (e9.trans (by decide))
                                  · exact fun e9 => c73 (e9.trans (by decide))
                                  · exact fun e9 => c78 (e9.trans (by decide))
                                  · exact fun e9 => c87 (e9.trans (by decide))
                                · refine lv_aload_n hx hb dX12_readsAll_167 rfl (lv_at hl 0 rfl) ?_
                                  refine lv_iload_n hx hb dX12_readsAll_168 rfl (lv_at hl 2 rfl) ?_
                                  refine lv_iconst (v := 1) hx hb dX12_readsAll_169 (by decide) ?_
                                  refine mt_b2I hf (fun r97 M98 hg96 hf => ?_)
                                  refine mt_goi (mt_runV (i := 147) (As := [.int a2, .int (1 : Int32)]) (rest := []) ⟨hx, hb, hml, hown, hts⟩ hI hH (c_X12_readsDigits l E a2 (1 : Int32) M u _ _ hg96) (cwV 2 hts gX12_readsAll_X12_readsDigits rfl rfl rfl (by decide +kernel) ⟨Nat.le_of_ble_eq_true rfl, Nat.le_of_ble_eq_true rfl⟩) mt_T147 rfl rfl hl.1 rfl (Nat.le_of_ble_eq_true rfl) dX12_readsAll_170 ⟨Nat.zero_le _, Nat.zero_le _⟩) hS (fun H locs hH hS => ?_)
                                  refine mt_ckI hf (fun q99 hf => ?_)
                                  obtain ⟨i1, i2⟩ := mt_so2 hf
                                  subst i1
                                  subst i2
                                  exact mt_zret hx hb hr hI hH hS q99 hlocks dX12_readsAll_173
set_option maxHeartbeats 4000000 in
set_option maxRecDepth 100000 in
theorem c_X12_isLetter (l : Launch) (E : mt_E) (a0 : Int32) (M : mt_M) (u : mt_U) (r : Int32) (hf : f_X12_isLetter a0 = some (r)) : Met l yX12_isLetter wsX12_isLetter ({ frames := 0, cells := 0, slots := 0, locals := 0 } : Room) (mt_P E [.int a0] M u) (mt_Qi E r M u) 0 0 (mt_A E) := by
  refine Met.ofW (cc := cX12_isLetter) (maxL := 1) (ret := (some .boolean)) (by decide) rfl ?_
  intro p e s mid args below meth c0 s₁ B hml hv
  obtain ⟨rfl, hI, hH⟩ := hv
  have hx := B.exec
  have hb := B.bytes
  have hr := B.returns
  have hts := atoms_spec (ws := wsX12_isLetter) B.pre
  have hown : s.vm.findClass RX12 = some mid.cls := findClass_of_methodNamed B.named
  have hlocks := B.notSynchronized
  have hS : va_S (mt_A E) s.heap s.heap [] := va_S.rf
  have hl := lv_entry ([.int a0]) (n := 1) (Nat.le_of_ble_eq_true rfl)
  rw [lg_entry_eq]
  generalize (lg_sl ([.int a0]) ++ List.replicate (1 - (lg_sl ([.int a0])).length) Slot.unset).toArray = ls at hl ⊢
  have hl : lv_has ls 1 [(0, .int a0)] := hl
  unfold f_X12_isLetter at hf
  refine lv_iload_n hx hb dX12_isLetter_0 rfl (lv_at hl 0 rfl) ?_
  refine lv_bipush (v := 116) hx hb dX12_isLetter_1 (by decide) ?_
  refine lv_icmp_eq (tgt := 48) hx hb dX12_isLetter_3 (by decide) (fun c1 => ?_) (fun c1 => ?_)
  · have hf := mt_ifT c1 hf
    refine lv_iconst (v := 1) hx hb dX12_isLetter_48 (by decide) ?_
    refine lv_goto (tgt := 53) hx hb dX12_isLetter_49 (by decide) ?_
    have i1 := mt_so1 hf
    subst i1
    exact mt_zret hx hb hr hI hH hS (by decide) hlocks dX12_isLetter_53
  · have hf := mt_ifF c1 hf
    refine lv_iload_n hx hb dX12_isLetter_6 rfl (lv_at hl 0 rfl) ?_
    refine lv_bipush (v := 119) hx hb dX12_isLetter_7 (by decide) ?_
    refine lv_icmp_eq (tgt := 48) hx hb dX12_isLetter_9 (by decide) (fun c2 => ?_) (fun c2 => ?_)
    · have hf := mt_ifT c2 hf
      refine lv_iconst (v := 1) hx hb dX12_isLetter_48 (by decide) ?_
      refine lv_goto (tgt := 53) hx hb dX12_isLetter_49 (by decide) ?_
      have i1 := mt_so1 hf
      subst i1
      exact mt_zret hx hb hr hI hH hS (by decide) hlocks dX12_isLetter_53
    · have hf := mt_ifF c2 hf
      refine lv_iload_n hx hb dX12_isLetter_12 rfl (lv_at hl 0 rfl) ?_
      refine lv_bipush (v := 107) hx hb dX12_isLetter_13 (by decide) ?_
      refine lv_icmp_eq (tgt := 48) hx hb dX12_isLetter_15 (by decide) (fun c3 => ?_) (fun c3 => ?_)
      · have hf := mt_ifT c3 hf
        refine lv_iconst (v := 1) hx hb dX12_isLetter_48 (by decide) ?_
        refine lv_goto (tgt := 53) hx hb dX12_isLetter_49 (by decide) ?_
        have i1 := mt_so1 hf
        subst i1
        exact mt_zret hx hb hr hI hH hS (by decide) hlocks dX12_isLetter_53
      · have hf := mt_ifF c3 hf
        refine lv_iload_n hx hb dX12_isLetter_18 rfl (lv_at hl 0 rfl) ?_
        refine lv_bipush (v := 120) hx hb dX12_isLetter_19 (by decide) ?_
        refine lv_icmp_eq (tgt := 48) hx hb dX12_isLetter_21 (by decide) (fun c4 => ?_) (fun c4 => ?_)
        · have hf := mt_ifT c4 hf
          refine lv_iconst (v := 1) hx hb dX12_isLetter_48 (by decide) ?_
          refine lv_goto (tgt := 53) hx hb dX12_isLetter_49 (by decide) ?_
          have i1 := mt_so1 hf
          subst i1
          exact mt_zret hx hb hr hI hH hS (by decide) hlocks dX12_isLetter_53
        · have hf := mt_ifF c4 hf
          refine lv_iload_n hx hb dX12_isLetter_24 rfl (lv_at hl 0 rfl) ?_
          refine lv_bipush (v := 106) hx hb dX12_isLetter_25 (by decide) ?_
          refine lv_icmp_eq (tgt := 48) hx hb dX12_isLetter_27 (by decide) (fun c5 => ?_) (fun c5 => ?_)
          · have hf := mt_ifT c5 hf
            refine lv_iconst (v := 1) hx hb dX12_isLetter_48 (by decide) ?_
            refine lv_goto (tgt := 53) hx hb dX12_isLetter_49 (by decide) ?_
            have i1 := mt_so1 hf
            subst i1
            exact mt_zret hx hb hr hI hH hS (by decide) hlocks dX12_isLetter_53
          · have hf := mt_ifF c5 hf
            refine lv_iload_n hx hb dX12_isLetter_30 rfl (lv_at hl 0 rfl) ?_
            refine lv_bipush (v := 114) hx hb dX12_isLetter_31 (by decide) ?_
            refine lv_icmp_eq (tgt := 48) hx hb dX12_isLetter_33 (by decide) (fun c6 => ?_) (fun c6 => ?_)
            · have hf := mt_ifT c6 hf
              refine lv_iconst (v := 1) hx hb dX12_isLetter_48 (by decide) ?_
              refine lv_goto (tgt := 53) hx hb dX12_isLetter_49 (by decide) ?_
              have i1 := mt_so1 hf
              subst i1
              exact mt_zret hx hb hr hI hH hS (by decide) hlocks dX12_isLetter_53
            · have hf := mt_ifF c6 hf
              refine lv_iload_n hx hb dX12_isLetter_36 rfl (lv_at hl 0 rfl) ?_
              refine lv_bipush (v := 100) hx hb dX12_isLetter_37 (by decide) ?_
              refine lv_icmp_eq (tgt := 48) hx hb dX12_isLetter_39 (by decide) (fun c7 => ?_) (fun c7 => ?_)
              · have hf := mt_ifT c7 hf
                refine lv_iconst (v := 1) hx hb dX12_isLetter_48 (by decide) ?_
                refine lv_goto (tgt := 53) hx hb dX12_isLetter_49 (by decide) ?_
                have i1 := mt_so1 hf
                subst i1
                exact mt_zret hx hb hr hI hH hS (by decide) hlocks dX12_isLetter_53
              · have hf := mt_ifF c7 hf
                refine lv_iload_n hx hb dX12_isLetter_42 rfl (lv_at hl 0 rfl) ?_
                refine lv_bipush (v := 115) hx hb dX12_isLetter_43 (by decide) ?_
                refine lv_icmp_ne (tgt := 52) hx hb dX12_isLetter_45 (by decide) (fun c8 => ?_) (fun c8 => ?_)
                · have hf := mt_ifF c8 hf
                  refine lv_iconst (v := 0) hx hb dX12_isLetter_52 (by decide) ?_
                  have i1 := mt_so1 hf
                  subst i1
                  exact mt_zret hx hb hr hI hH hS (by decide) hlocks dX12_isLetter_53
                · have hf := mt_ifT c8 hf
                  refine lv_iconst (v := 1) hx hb dX12_isLetter_48 (by decide) ?_
                  refine lv_goto (tgt := 53) hx hb dX12_isLetter_49 (by decide) ?_
                  have i1 := mt_so1 hf
                  subst i1
                  exact mt_zret hx hb hr hI hH hS (by decide) hlocks dX12_isLetter_53
set_option maxHeartbeats 4000000 in
set_option maxRecDepth 100000 in
theorem c_X12_statement (l : Launch) (E : mt_E)  (M : mt_M) (u : mt_U) (r : Int32) (M' : mt_M) (hf : f_X12_statement M = some (r, M')) : Met l yX12_statement wsX12_statement ({ frames := 3, cells := 0, slots := 0, locals := 68 } : Room) (mt_P E [.ref (E.2.1 147)] M u) (mt_Qi E r M' u) 0 0 (mt_A E) := by
  refine Met.ofW (cc := cX12_statement) (maxL := 2) (ret := (some .boolean)) (by decide) rfl ?_
  intro p e s mid args below meth c0 s₁ B hml hv
  obtain ⟨rfl, hI, hH⟩ := hv
  have hx := B.exec
  have hb := B.bytes
  have hr := B.returns
  have hts := atoms_spec (ws := wsX12_statement) B.pre
  have hown : s.vm.findClass RX12 = some mid.cls := findClass_of_methodNamed B.named
  have hlocks := B.notSynchronized
  have hS : va_S (mt_A E) s.heap s.heap [] := va_S.rf
  have hl := lv_entry ([.ref (E.2.1 147)]) (n := 2) (Nat.le_of_ble_eq_true rfl)
  rw [lg_entry_eq]
  generalize (lg_sl ([.ref (E.2.1 147)]) ++ List.replicate (2 - (lg_sl ([.ref (E.2.1 147)])).length) Slot.unset).toArray = ls at hl ⊢
  have hl : lv_has ls 2 [(0, .ref (E.2.1 147))] := hl
  unfold f_X12_statement at hf
  have kw0 := hts (.fieldLink RX12 37 "MilkTwiceModel" "letter" "[I") (List.mem_of_getElem? (i := 1) rfl)
  have kw1 := hts (.fieldLink RX12 101 "MilkTwiceModel" "statements" "I") (List.mem_of_getElem? (i := 2) rfl)
  have kw2 := hts (.fieldLink RX12 40 "MilkTwiceModel" "letterAt" "[I") (List.mem_of_getElem? (i := 3) rfl)
  have kw3 := hts (.fieldLink RX12 83 "MilkTwiceModel" "at" "I") (List.mem_of_getElem? (i := 4) rfl)
  have hinX12 : ∀ w ∈ u_ws RX12 TX12 29, w ∈ wsX12_statement := fun w h => List.mem_cons_of_mem _ (List.mem_append_right _ h)
  refine lv_aload_n hx hb dX12_statement_0 rfl (lv_at hl 0 rfl) ?_
  refine mt_b1I hf (fun r2 hg1 hf => ?_)
  refine mt_goi (mt_runV (i := 147) (As := []) (rest := []) ⟨hx, hb, hml, hown, hts⟩ hI hH (c_X12_next l E M u _ hg1) (cwV 0 hts gX12_statement_X12_next rfl rfl rfl (by decide +kernel) ⟨Nat.le_of_ble_eq_true rfl, Nat.le_of_ble_eq_true rfl⟩) mt_T147 rfl rfl hl.1 rfl (Nat.le_of_ble_eq_true rfl) dX12_statement_1 ⟨Nat.zero_le _, Nat.zero_le _⟩) hS (fun H locs hH hS => ?_)
  refine lv_istore_n (lv' := [(1, .int r2), (0, .ref (E.2.1 147))]) hx hb dX12_statement_4 rfl hl (by decide) rfl (fun ls hl => ?_)
  refine lv_iload_n hx hb dX12_statement_5 rfl (lv_at hl 0 rfl) ?_
  refine mt_b1I hf (fun r4 hg3 hf => ?_)
  refine mt_goi (mt_runS (As := [.int r2]) (rest := []) ⟨hx, hb, hml, hown, hts⟩ hI hH (c_X12_isLetter l E r2 M u _ hg3) (va_cwS 1 hts gX12_statement_X12_isLetter rfl rfl rfl (by decide +kernel) ⟨Nat.le_of_ble_eq_true rfl, Nat.le_of_ble_eq_true rfl⟩) rfl hl.1 rfl (Nat.le_of_ble_eq_true rfl) dX12_statement_6 ⟨Nat.zero_le _, Nat.zero_le _⟩) hS (fun H locs hH hS => ?_)
  refine lv_if_ne (tgt := 14) hx hb dX12_statement_9 (by decide) (fun c5 => ?_) (fun c5 => ?_)
  · have hf := mt_ifF c5 hf
    refine lv_aload_n hx hb dX12_statement_14 rfl (lv_at hl 1 rfl) ?_
    refine mt_getr (C := RX12) (T := TX12) (N := 29) hx hb hts hinX12 hown hI hH mt_T147 rfl 13 (by decide) kw0 rfl rfl dX12_statement_15 ?_
    refine lv_aload_n hx hb dX12_statement_18 rfl (lv_at hl 1 rfl) ?_
    refine mt_geti (C := RX12) (T := TX12) (N := 29) hx hb hts hinX12 hown hI hH mt_T147 rfl 18 (by decide) kw1 rfl rfl dX12_statement_19 ?_
    refine lv_iload_n hx hb dX12_statement_22 rfl (lv_at hl 0 rfl) ?_
    refine mt_ciI hf (fun q7 hf => ?_)
    refine mt_iast hx hb hI hH hS mt_T157 q7 dX12_statement_23 (fun H locs hH hS => ?_)
    refine mt_ltI hf (fun M6 eM6 hf => ?_)
    rw [← eM6] at hH
    refine lv_aload_n hx hb dX12_statement_24 rfl (lv_at hl 1 rfl) ?_
    refine mt_getr (C := RX12) (T := TX12) (N := 29) hx hb hts hinX12 hown hI hH mt_T147 rfl 14 (by decide) kw2 rfl rfl dX12_statement_25 ?_
    refine lv_aload_n hx hb dX12_statement_28 rfl (lv_at hl 1 rfl) ?_
    refine mt_geti (C := RX12) (T := TX12) (N := 29) hx hb hts hinX12 hown hI hH mt_T147 rfl 18 (by decide) kw1 rfl rfl dX12_statement_29 ?_
    refine lv_aload_n hx hb dX12_statement_32 rfl (lv_at hl 1 rfl) ?_
    refine mt_geti (C := RX12) (T := TX12) (N := 29) hx hb hts hinX12 hown hI hH mt_T147 rfl 17 (by decide) kw3 rfl rfl dX12_statement_33 ?_
    refine mt_ciI hf (fun q9 hf => ?_)
    refine mt_iast hx hb hI hH hS mt_T158 q9 dX12_statement_36 (fun H locs hH hS => ?_)
    refine mt_ltI hf (fun M8 eM8 hf => ?_)
    rw [← eM8] at hH
    refine lv_aload_n hx hb dX12_statement_37 rfl (lv_at hl 1 rfl) ?_
    refine lv_dup hx hb dX12_statement_38 rfl ?_
    refine mt_geti (C := RX12) (T := TX12) (N := 29) hx hb hts hinX12 hown hI hH mt_T147 rfl 17 (by decide) kw3 rfl rfl dX12_statement_39 ?_
    refine lv_iconst (v := 1) hx hb dX12_statement_42 (by decide) ?_
    refine lv_iadd hx hb dX12_statement_43 ?_
    refine mt_puti (ty := .int) (C := RX12) (T := TX12) (N := 29) hx hb hts hinX12 tyX12 tyX12_ok nmX12 hown hI hH hS mt_T147 rfl 17 (by decide) kw3 rfl rfl (by decide +kernel) rfl rfl rfl dX12_statement_44 (fun H locs hH hS => ?_)
    refine mt_ltI hf (fun M10 eM10 hf => ?_)
    rw [← eM10] at hH
    refine lv_aload_n hx hb dX12_statement_47 rfl (lv_at hl 1 rfl) ?_
    refine lv_iload_n hx hb dX12_statement_48 rfl (lv_at hl 0 rfl) ?_
    refine lv_iconst (v := 3) hx hb dX12_statement_49 (by decide) ?_
    refine lv_aload_n hx hb dX12_statement_50 rfl (lv_at hl 1 rfl) ?_
    refine mt_geti (C := RX12) (T := TX12) (N := 29) hx hb hts hinX12 hown hI hH mt_T147 rfl 18 (by decide) kw1 rfl rfl dX12_statement_51 ?_
    refine lv_imul hx hb dX12_statement_54 ?_
    refine mt_b2I hf (fun r12 M13 hg11 hf => ?_)
    refine mt_goi (mt_runV (i := 147) (As := [.int r2, .int ((3 : Int32) * (M10 147 18))]) (rest := []) ⟨hx, hb, hml, hown, hts⟩ hI hH (c_X12_readsAll l E r2 ((3 : Int32) * (M10 147 18)) M10 u _ _ hg11) (cwV 2 hts gX12_statement_X12_readsAll rfl rfl rfl (by decide +kernel) ⟨Nat.le_of_ble_eq_true rfl, Nat.le_of_ble_eq_true rfl⟩) mt_T147 rfl rfl hl.1 rfl (Nat.le_of_ble_eq_true rfl) dX12_statement_55 ⟨Nat.zero_le _, Nat.zero_le _⟩) hS (fun H locs hH hS => ?_)
    refine lv_if_eq (tgt := 70) hx hb dX12_statement_58 (by decide) (fun c14 => ?_) (fun c14 => ?_)
    · have hf := mt_ifT c14 hf
      refine lv_iconst (v := 0) hx hb dX12_statement_70 (by decide) ?_
      obtain ⟨i1, i2⟩ := mt_so2 hf
      subst i1
      subst i2
      exact mt_zret hx hb hr hI hH hS (by decide) hlocks dX12_statement_71
    · have hf := mt_ifF c14 hf
      refine lv_aload_n hx hb dX12_statement_61 rfl (lv_at hl 1 rfl) ?_
      refine mt_b1I hf (fun r16 hg15 hf => ?_)
      refine mt_goi (mt_runV (i := 147) (As := []) (rest := []) ⟨hx, hb, hml, hown, hts⟩ hI hH (c_X12_next l E M13 u _ hg15) (cwV 0 hts gX12_statement_X12_next rfl rfl rfl (by decide +kernel) ⟨Nat.le_of_ble_eq_true rfl, Nat.le_of_ble_eq_true rfl⟩) mt_T147 rfl rfl hl.1 rfl (Nat.le_of_ble_eq_true rfl) dX12_statement_62 ⟨Nat.zero_le _, Nat.zero_le _⟩) hS (fun H locs hH hS => ?_)
      refine lv_bipush (v := 59) hx hb dX12_statement_65 (by decide) ?_
      refine lv_icmp_eq (tgt := 72) hx hb dX12_statement_67 (by decide) (fun c17 => ?_) (fun c17 => ?_)
      · have hf := mt_ifT c17 hf
        refine lv_aload_n hx hb dX12_statement_72 rfl (lv_at hl 1 rfl) ?_
        refine lv_dup hx hb dX12_statement_73 rfl ?_
        refine mt_geti (C := RX12) (T := TX12) (N := 29) hx hb hts hinX12 hown hI hH mt_T147 rfl 17 (by decide) kw3 rfl rfl dX12_statement_74 ?_
        refine lv_iconst (v := 1) hx hb dX12_statement_77 (by decide) ?_
        refine lv_iadd hx hb dX12_statement_78 ?_
        refine mt_puti (ty := .int) (C := RX12) (T := TX12) (N := 29) hx hb hts hinX12 tyX12 tyX12_ok nmX12 hown hI hH hS mt_T147 rfl 17 (by decide) kw3 rfl rfl (by decide +kernel) rfl rfl rfl dX12_statement_79 (fun H locs hH hS => ?_)
        refine mt_ltI hf (fun M18 eM18 hf => ?_)
        rw [← eM18] at hH
        refine lv_iconst (v := 1) hx hb dX12_statement_82 (by decide) ?_
        obtain ⟨i1, i2⟩ := mt_so2 hf
        subst i1
        subst i2
        exact mt_zret hx hb hr hI hH hS (by decide) hlocks dX12_statement_83
      · have hf := mt_ifF c17 hf
        refine lv_iconst (v := 0) hx hb dX12_statement_70 (by decide) ?_
        obtain ⟨i1, i2⟩ := mt_so2 hf
        subst i1
        subst i2
        exact mt_zret hx hb hr hI hH hS (by decide) hlocks dX12_statement_71
  · have hf := mt_ifT c5 hf
    refine lv_iconst (v := 0) hx hb dX12_statement_12 (by decide) ?_
    obtain ⟨i1, i2⟩ := mt_so2 hf
    subst i1
    subst i2
    exact mt_zret hx hb hr hI hH hS (by decide) hlocks dX12_statement_13
set_option maxHeartbeats 4000000 in
set_option maxRecDepth 100000 in
theorem c_X12_marks (l : Launch) (E : mt_E) (a1 : Int32) (a2 : Int32) (a3 : Int32) (M : mt_M) (u : mt_U) (M' : mt_M) (hf : f_X12_marks a1 a2 a3 M = some (M')) : Met l yX12_marks wsX12_marks ({ frames := 0, cells := 0, slots := 0, locals := 0 } : Room) (mt_P E [.ref (E.2.1 147), .int a1, .int a2, .int a3] M u) (mt_Qv E M' u) 0 0 (mt_A E) := by
  refine Met.ofW (cc := cX12_marks) (maxL := 4) (ret := none) (by decide) rfl ?_
  intro p e s mid args below meth c0 s₁ B hml hv
  obtain ⟨rfl, hI, hH⟩ := hv
  have hx := B.exec
  have hb := B.bytes
  have hr := B.returns
  have hts := atoms_spec (ws := wsX12_marks) B.pre
  have hown : s.vm.findClass RX12 = some mid.cls := findClass_of_methodNamed B.named
  have hlocks := B.notSynchronized
  have hS : va_S (mt_A E) s.heap s.heap [] := va_S.rf
  have hl := lv_entry ([.ref (E.2.1 147), .int a1, .int a2, .int a3]) (n := 4) (Nat.le_of_ble_eq_true rfl)
  rw [lg_entry_eq]
  generalize (lg_sl ([.ref (E.2.1 147), .int a1, .int a2, .int a3]) ++ List.replicate (4 - (lg_sl ([.ref (E.2.1 147), .int a1, .int a2, .int a3])).length) Slot.unset).toArray = ls at hl ⊢
  have hl : lv_has ls 4 [(0, .ref (E.2.1 147)), (1, .int a1), (2, .int a2), (3, .int a3)] := hl
  unfold f_X12_marks at hf
  have kw0 := hts (.fieldLink RX12 110 "MilkTwiceModel" "now" "I") (List.mem_of_getElem? (i := 1) rfl)
  have kw1 := hts (.fieldLink RX12 25 "MilkTwiceModel" "wanted" "[I") (List.mem_of_getElem? (i := 2) rfl)
  have kw2 := hts (.fieldLink RX12 28 "MilkTwiceModel" "clock" "[I") (List.mem_of_getElem? (i := 3) rfl)
  have hinX12 : ∀ w ∈ u_ws RX12 TX12 29, w ∈ wsX12_marks := fun w h => List.mem_cons_of_mem _ (List.mem_append_right _ h)
  refine lv_aload_n hx hb dX12_marks_0 rfl (lv_at hl 0 rfl) ?_
  refine lv_dup hx hb dX12_marks_1 rfl ?_
  refine mt_geti (C := RX12) (T := TX12) (N := 29) hx hb hts hinX12 hown hI hH mt_T147 rfl 9 (by decide) kw0 rfl rfl dX12_marks_2 ?_
  refine lv_iconst (v := 1) hx hb dX12_marks_5 (by decide) ?_
  refine lv_iadd hx hb dX12_marks_6 ?_
  refine mt_puti (ty := .int) (C := RX12) (T := TX12) (N := 29) hx hb hts hinX12 tyX12 tyX12_ok nmX12 hown hI hH hS mt_T147 rfl 9 (by decide) kw0 rfl rfl (by decide +kernel) rfl rfl rfl dX12_marks_7 (fun H locs hH hS => ?_)
  refine mt_ltI hf (fun M1 eM1 hf => ?_)
  rw [← eM1] at hH
  refine lv_aload_n hx hb dX12_marks_10 rfl (lv_at hl 0 rfl) ?_
  refine mt_getr (C := RX12) (T := TX12) (N := 29) hx hb hts hinX12 hown hI hH mt_T147 rfl 5 (by decide) kw1 rfl rfl dX12_marks_11 ?_
  refine lv_bipush (v := 7) hx hb dX12_marks_14 (by decide) ?_
  refine lv_iload_n hx hb dX12_marks_16 rfl (lv_at hl 1 rfl) ?_
  refine lv_imul hx hb dX12_marks_17 ?_
  refine lv_iload_n hx hb dX12_marks_18 rfl (lv_at hl 2 rfl) ?_
  refine lv_iadd hx hb dX12_marks_19 ?_
  refine lv_iload_n hx hb dX12_marks_20 rfl (lv_at hl 3 rfl) ?_
  refine mt_ciI hf (fun q3 hf => ?_)
  refine mt_iast hx hb hI hH hS mt_T153 q3 dX12_marks_21 (fun H locs hH hS => ?_)
  refine mt_ltI hf (fun M2 eM2 hf => ?_)
  rw [← eM2] at hH
  refine lv_aload_n hx hb dX12_marks_22 rfl (lv_at hl 0 rfl) ?_
  refine mt_getr (C := RX12) (T := TX12) (N := 29) hx hb hts hinX12 hown hI hH mt_T147 rfl 6 (by decide) kw2 rfl rfl dX12_marks_23 ?_
  refine lv_bipush (v := 7) hx hb dX12_marks_26 (by decide) ?_
  refine lv_iload_n hx hb dX12_marks_28 rfl (lv_at hl 1 rfl) ?_
  refine lv_imul hx hb dX12_marks_29 ?_
  refine lv_iload_n hx hb dX12_marks_30 rfl (lv_at hl 2 rfl) ?_
  refine lv_iadd hx hb dX12_marks_31 ?_
  refine lv_aload_n hx hb dX12_marks_32 rfl (lv_at hl 0 rfl) ?_
  refine mt_geti (C := RX12) (T := TX12) (N := 29) hx hb hts hinX12 hown hI hH mt_T147 rfl 9 (by decide) kw0 rfl rfl dX12_marks_33 ?_
  refine mt_ciI hf (fun q5 hf => ?_)
  refine mt_iast hx hb hI hH hS mt_T154 q5 dX12_marks_36 (fun H locs hH hS => ?_)
  refine mt_ltI hf (fun M4 eM4 hf => ?_)
  rw [← eM4] at hH
  have i1 := mt_so1 hf
  subst i1
  exact mt_vret hx hb hr hI hH hS hlocks dX12_marks_37
set_option maxHeartbeats 4000000 in
set_option maxRecDepth 100000 in
theorem c_X12_packOf (l : Launch) (E : mt_E) (a1 : Int32) (M : mt_M) (u : mt_U) (r : Int32) (hf : f_X12_packOf a1 M = some (r)) : Met l yX12_packOf wsX12_packOf ({ frames := 0, cells := 0, slots := 0, locals := 0 } : Room) (mt_P E [.ref (E.2.1 147), .int a1] M u) (mt_Qi E r M u) 0 0 (mt_A E) := by
  refine Met.ofW (cc := cX12_packOf) (maxL := 2) (ret := (some .int)) (by decide) rfl ?_
  intro p e s mid args below meth c0 s₁ B hml hv
  obtain ⟨rfl, hI, hH⟩ := hv
  have hx := B.exec
  have hb := B.bytes
  have hr := B.returns
  have hts := atoms_spec (ws := wsX12_packOf) B.pre
  have hown : s.vm.findClass RX12 = some mid.cls := findClass_of_methodNamed B.named
  have hlocks := B.notSynchronized
  have hS : va_S (mt_A E) s.heap s.heap [] := va_S.rf
  have hl := lv_entry ([.ref (E.2.1 147), .int a1]) (n := 2) (Nat.le_of_ble_eq_true rfl)
  rw [lg_entry_eq]
  generalize (lg_sl ([.ref (E.2.1 147), .int a1]) ++ List.replicate (2 - (lg_sl ([.ref (E.2.1 147), .int a1])).length) Slot.unset).toArray = ls at hl ⊢
  have hl : lv_has ls 2 [(0, .ref (E.2.1 147)), (1, .int a1)] := hl
  unfold f_X12_packOf at hf
  have kw0 := hts (.fieldLink RX12 13 "MilkTwiceModel" "kind" "[I") (List.mem_of_getElem? (i := 1) rfl)
  have hinX12 : ∀ w ∈ u_ws RX12 TX12 29, w ∈ wsX12_packOf := fun w h => List.mem_cons_of_mem _ (List.mem_append_right _ h)
  refine lv_aload_n hx hb dX12_packOf_0 rfl (lv_at hl 0 rfl) ?_
  refine mt_getr (C := RX12) (T := TX12) (N := 29) hx hb hts hinX12 hown hI hH mt_T147 rfl 1 (by decide) kw0 rfl rfl dX12_packOf_1 ?_
  refine lv_iload_n hx hb dX12_packOf_4 rfl (lv_at hl 1 rfl) ?_
  refine mt_ciI hf (fun q1 hf => ?_)
  refine mt_iald hx hb hI hH mt_T149 q1 dX12_packOf_5 ?_
  refine mt_lti hf (fun x2 ex2 hf => ?_)
  by_cases c3 : x2 = (1 : Int32)
  · have hf := mt_ifT c3 hf
    refine lv_tableIn (off := 34) (tgt := 40) hx hb dX12_packOf_6 (by rw [c3]; decide) (by rw [c3]; decide) (by rw [c3]; rfl) (by decide) ?_
    refine lv_iconst (v := 2) hx hb dX12_packOf_40 (by decide) ?_
    have i1 := mt_so1 hf
    subst i1
    exact mt_iret hx hb hr hI hH hS hlocks dX12_packOf_41
  · have hf := mt_ifF c3 hf
    by_cases c4 : x2 = (2 : Int32)
    · have hf := mt_ifT c4 hf
      refine lv_tableIn (off := 36) (tgt := 42) hx hb dX12_packOf_6 (by rw [c4]; decide) (by rw [c4]; decide) (by rw [c4]; rfl) (by decide) ?_
      refine lv_iconst (v := 3) hx hb dX12_packOf_42 (by decide) ?_
      have i1 := mt_so1 hf
      subst i1
      exact mt_iret hx hb hr hI hH hS hlocks dX12_packOf_43
    · have hf := mt_ifF c4 hf
      by_cases c5 : x2 = (3 : Int32)
      · have hf := mt_ifT c5 hf
        refine lv_tableIn (off := 41) (tgt := 47) hx hb dX12_packOf_6 (by rw [c5]; decide) (by rw [c5]; decide) (by rw [c5]; rfl) (by decide) ?_
        refine lv_iconst (v := 1) hx hb dX12_packOf_47 (by decide) ?_
        have i1 := mt_so1 hf
        subst i1
        exact mt_iret hx hb hr hI hH hS hlocks dX12_packOf_48
      · have hf := mt_ifF c5 hf
        by_cases c6 : x2 = (4 : Int32)
        · have hf := mt_ifT c6 hf
          refine lv_tableIn (off := 34) (tgt := 40) hx hb dX12_packOf_6 (by rw [c6]; decide) (by rw [c6]; decide) (by rw [c6]; rfl) (by decide) ?_
          refine lv_iconst (v := 2) hx hb dX12_packOf_40 (by decide) ?_
          have i1 := mt_so1 hf
          subst i1
          exact mt_iret hx hb hr hI hH hS hlocks dX12_packOf_41
        · have hf := mt_ifF c6 hf
          by_cases c7 : x2 = (5 : Int32)
          · have hf := mt_ifT c7 hf
            refine lv_tableIn (off := 38) (tgt := 44) hx hb dX12_packOf_6 (by rw [c7]; decide) (by rw [c7]; decide) (by rw [c7]; rfl) (by decide) ?_
            refine lv_bipush (v := 6) hx hb dX12_packOf_44 (by decide) ?_
            have i1 := mt_so1 hf
            subst i1
            exact mt_iret hx hb hr hI hH hS hlocks dX12_packOf_46
          · have hf := mt_ifF c7 hf
            refine lv_tableOut (tgt := 47) hx hb dX12_packOf_6 (mt_tabOut (1) (5) (by decide) (by decide) (fun n hn => ?_)) (by decide) ?_
            · rcases (show n = 0 ∨ n = 1 ∨ n = 2 ∨ n = 3 ∨ n = 4 from by omega) with rfl | rfl | rfl | rfl | rfl
              · exact fun e9 => c3 (e9.trans (by decide))
              · exact fun e9 => c4 (e9.trans (by decide))
              · exact fun e9 => c5 (e9.trans (by decide))
              · exact fun e9 => c6 (e9.trans (by decide))
              · exact fun e9 => c7 (e9.trans (by decide))
            · refine lv_iconst (v := 1) hx hb dX12_packOf_47 (by decide) ?_
              have i1 := mt_so1 hf
              subst i1
              exact mt_iret hx hb hr hI hH hS hlocks dX12_packOf_48
set_option maxHeartbeats 4000000 in
set_option maxRecDepth 100000 in
theorem c_X12_priceOf (l : Launch) (E : mt_E) (a1 : Int32) (M : mt_M) (u : mt_U) (r : Int32) (hf : f_X12_priceOf a1 M = some (r)) : Met l yX12_priceOf wsX12_priceOf ({ frames := 0, cells := 0, slots := 0, locals := 0 } : Room) (mt_P E [.ref (E.2.1 147), .int a1] M u) (mt_Qi E r M u) 0 0 (mt_A E) := by
  refine Met.ofW (cc := cX12_priceOf) (maxL := 3) (ret := (some .int)) (by decide) rfl ?_
  intro p e s mid args below meth c0 s₁ B hml hv
  obtain ⟨rfl, hI, hH⟩ := hv
  have hx := B.exec
  have hb := B.bytes
  have hr := B.returns
  have hts := atoms_spec (ws := wsX12_priceOf) B.pre
  have hown : s.vm.findClass RX12 = some mid.cls := findClass_of_methodNamed B.named
  have hlocks := B.notSynchronized
  have hS : va_S (mt_A E) s.heap s.heap [] := va_S.rf
  have hl := lv_entry ([.ref (E.2.1 147), .int a1]) (n := 3) (Nat.le_of_ble_eq_true rfl)
  rw [lg_entry_eq]
  generalize (lg_sl ([.ref (E.2.1 147), .int a1]) ++ List.replicate (3 - (lg_sl ([.ref (E.2.1 147), .int a1])).length) Slot.unset).toArray = ls at hl ⊢
  have hl : lv_has ls 3 [(0, .ref (E.2.1 147)), (1, .int a1)] := hl
  unfold f_X12_priceOf at hf
  have kw0 := hts (.fieldLink RX12 16 "MilkTwiceModel" "figure" "[I") (List.mem_of_getElem? (i := 1) rfl)
  have kw1 := hts (.fieldLink RX12 13 "MilkTwiceModel" "kind" "[I") (List.mem_of_getElem? (i := 2) rfl)
  have hinX12 : ∀ w ∈ u_ws RX12 TX12 29, w ∈ wsX12_priceOf := fun w h => List.mem_cons_of_mem _ (List.mem_append_right _ h)
  refine lv_aload_n hx hb dX12_priceOf_0 rfl (lv_at hl 0 rfl) ?_
  refine mt_getr (C := RX12) (T := TX12) (N := 29) hx hb hts hinX12 hown hI hH mt_T147 rfl 2 (by decide) kw0 rfl rfl dX12_priceOf_1 ?_
  refine lv_iload_n hx hb dX12_priceOf_4 rfl (lv_at hl 1 rfl) ?_
  refine mt_ciI hf (fun q1 hf => ?_)
  refine mt_iald hx hb hI hH mt_T150 q1 dX12_priceOf_5 ?_
  refine lv_iconst (v := 2) hx hb dX12_priceOf_6 (by decide) ?_
  refine lv_iadd hx hb dX12_priceOf_7 ?_
  refine mt_lti hf (fun x2 ex2 hf => ?_)
  refine lv_istore_n (lv' := [(2, .int x2), (0, .ref (E.2.1 147)), (1, .int a1)]) hx hb dX12_priceOf_8 rfl hl (by decide) rfl (fun ls hl => ?_)
  refine lv_aload_n hx hb dX12_priceOf_9 rfl (lv_at hl 1 rfl) ?_
  refine mt_getr (C := RX12) (T := TX12) (N := 29) hx hb hts hinX12 hown hI hH mt_T147 rfl 1 (by decide) kw1 rfl rfl dX12_priceOf_10 ?_
  refine lv_iload_n hx hb dX12_priceOf_13 rfl (lv_at hl 2 rfl) ?_
  refine mt_ciI hf (fun q3 hf => ?_)
  refine mt_iald hx hb hI hH mt_T149 q3 dX12_priceOf_14 ?_
  refine mt_lti hf (fun x4 ex4 hf => ?_)
  by_cases c5 : x4 = (1 : Int32)
  · have hf := mt_ifT c5 hf
    refine lv_tableIn (off := 33) (tgt := 48) hx hb dX12_priceOf_15 (by rw [c5]; decide) (by rw [c5]; decide) (by rw [c5]; rfl) (by decide) ?_
    refine lv_iload_n hx hb dX12_priceOf_48 rfl (lv_at hl 0 rfl) ?_
    refine lv_iconst (v := 2) hx hb dX12_priceOf_49 (by decide) ?_
    refine lv_idiv hx hb dX12_priceOf_50 (by decide) ?_
    have i1 := mt_so1 hf
    subst i1
    exact mt_iret hx hb hr hI hH hS hlocks dX12_priceOf_51
  · have hf := mt_ifF c5 hf
    by_cases c6 : x4 = (2 : Int32)
    · have hf := mt_ifT c6 hf
      refine lv_tableIn (off := 51) (tgt := 66) hx hb dX12_priceOf_15 (by rw [c6]; decide) (by rw [c6]; decide) (by rw [c6]; rfl) (by decide) ?_
      refine lv_iload_n hx hb dX12_priceOf_66 rfl (lv_at hl 0 rfl) ?_
      have i1 := mt_so1 hf
      subst i1
      exact mt_iret hx hb hr hI hH hS hlocks dX12_priceOf_67
    · have hf := mt_ifF c6 hf
      by_cases c7 : x4 = (3 : Int32)
      · have hf := mt_ifT c7 hf
        refine lv_tableIn (off := 37) (tgt := 52) hx hb dX12_priceOf_15 (by rw [c7]; decide) (by rw [c7]; decide) (by rw [c7]; rfl) (by decide) ?_
        refine lv_iconst (v := 5) hx hb dX12_priceOf_52 (by decide) ?_
        refine lv_iload_n hx hb dX12_priceOf_53 rfl (lv_at hl 0 rfl) ?_
        refine lv_imul hx hb dX12_priceOf_54 ?_
        have i1 := mt_so1 hf
        subst i1
        exact mt_iret hx hb hr hI hH hS hlocks dX12_priceOf_55
      · have hf := mt_ifF c7 hf
        by_cases c8 : x4 = (4 : Int32)
        · have hf := mt_ifT c8 hf
          refine lv_tableIn (off := 41) (tgt := 56) hx hb dX12_priceOf_15 (by rw [c8]; decide) (by rw [c8]; decide) (by rw [c8]; rfl) (by decide) ?_
          refine lv_iload_n hx hb dX12_priceOf_56 rfl (lv_at hl 0 rfl) ?_
          refine lv_iconst (v := 2) hx hb dX12_priceOf_57 (by decide) ?_
          refine lv_idiv hx hb dX12_priceOf_58 (by decide) ?_
          refine lv_iconst (v := 3) hx hb dX12_priceOf_59 (by decide) ?_
          refine lv_iadd hx hb dX12_priceOf_60 ?_
          have i1 := mt_so1 hf
          subst i1
          exact mt_iret hx hb hr hI hH hS hlocks dX12_priceOf_61
        · have hf := mt_ifF c8 hf
          by_cases c9 : x4 = (5 : Int32)
          · have hf := mt_ifT c9 hf
            refine lv_tableIn (off := 47) (tgt := 62) hx hb dX12_priceOf_15 (by rw [c9]; decide) (by rw [c9]; decide) (by rw [c9]; rfl) (by decide) ?_
            refine lv_iload_n hx hb dX12_priceOf_62 rfl (lv_at hl 0 rfl) ?_
            refine lv_iconst (v := 1) hx hb dX12_priceOf_63 (by decide) ?_
            refine lv_isub hx hb dX12_priceOf_64 ?_
            have i1 := mt_so1 hf
            subst i1
            exact mt_iret hx hb hr hI hH hS hlocks dX12_priceOf_65
          · have hf := mt_ifF c9 hf
            refine lv_tableOut (tgt := 66) hx hb dX12_priceOf_15 (mt_tabOut (1) (5) (by decide) (by decide) (fun n hn => ?_)) (by decide) ?_
            · rcases (show n = 0 ∨ n = 1 ∨ n = 2 ∨ n = 3 ∨ n = 4 from by omega) with rfl | rfl | rfl | rfl | rfl
              · exact fun e9 => c5 (e9.trans (by decide))
              · exact fun e9 => c6 (e9.trans (by decide))
              · exact fun e9 => c7 (e9.trans (by decide))
              · exact fun e9 => c8 (e9.trans (by decide))
              · exact fun e9 => c9 (e9.trans (by decide))
            · refine lv_iload_n hx hb dX12_priceOf_66 rfl (lv_at hl 0 rfl) ?_
              have i1 := mt_so1 hf
              subst i1
              exact mt_iret hx hb hr hI hH hS hlocks dX12_priceOf_67
set_option maxHeartbeats 4000000 in
set_option maxRecDepth 100000 in
theorem c_X12_gets (l : Launch) (E : mt_E) (a1 : Int32) (M : mt_M) (u : mt_U) (M' : mt_M) (hf : f_X12_gets a1 M = some (M')) : Met l yX12_gets wsX12_gets ({ frames := 1, cells := 0, slots := 0, locals := 22 } : Room) (mt_P E [.ref (E.2.1 147), .int a1] M u) (mt_Qv E M' u) 0 0 (mt_A E) := by
  refine Met.ofW (cc := cX12_gets) (maxL := 3) (ret := none) (by decide) rfl ?_
  intro p e s mid args below meth c0 s₁ B hml hv
  obtain ⟨rfl, hI, hH⟩ := hv
  have hx := B.exec
  have hb := B.bytes
  have hr := B.returns
  have hts := atoms_spec (ws := wsX12_gets) B.pre
  have hown : s.vm.findClass RX12 = some mid.cls := findClass_of_methodNamed B.named
  have hlocks := B.notSynchronized
  have hS : va_S (mt_A E) s.heap s.heap [] := va_S.rf
  have hl := lv_entry ([.ref (E.2.1 147), .int a1]) (n := 3) (Nat.le_of_ble_eq_true rfl)
  rw [lg_entry_eq]
  generalize (lg_sl ([.ref (E.2.1 147), .int a1]) ++ List.replicate (3 - (lg_sl ([.ref (E.2.1 147), .int a1])).length) Slot.unset).toArray = ls at hl ⊢
  have hl : lv_has ls 3 [(0, .ref (E.2.1 147)), (1, .int a1)] := hl
  unfold f_X12_gets at hf
  have kw0 := hts (.fieldLink RX12 22 "MilkTwiceModel" "stocked" "[I") (List.mem_of_getElem? (i := 1) rfl)
  have kw1 := hts (.fieldLink RX12 31 "MilkTwiceModel" "sums" "[I") (List.mem_of_getElem? (i := 2) rfl)
  have hinX12 : ∀ w ∈ u_ws RX12 TX12 29, w ∈ wsX12_gets := fun w h => List.mem_cons_of_mem _ (List.mem_append_right _ h)
  refine lv_aload_n hx hb dX12_gets_0 rfl (lv_at hl 0 rfl) ?_
  refine mt_getr (C := RX12) (T := TX12) (N := 29) hx hb hts hinX12 hown hI hH mt_T147 rfl 4 (by decide) kw0 rfl rfl dX12_gets_1 ?_
  refine lv_iload_n hx hb dX12_gets_4 rfl (lv_at hl 1 rfl) ?_
  refine mt_ciI hf (fun q1 hf => ?_)
  refine mt_iald hx hb hI hH mt_T152 q1 dX12_gets_5 ?_
  refine lv_aload_n hx hb dX12_gets_6 rfl (lv_at hl 0 rfl) ?_
  refine lv_iload_n hx hb dX12_gets_7 rfl (lv_at hl 1 rfl) ?_
  refine mt_b1I hf (fun r3 hg2 hf => ?_)
  refine mt_goi (mt_runV (i := 147) (As := [.int a1]) (rest := [.int (M 152 a1.toNatClampNeg)]) ⟨hx, hb, hml, hown, hts⟩ hI hH (c_X12_packOf l E a1 M u _ hg2) (cwV 1 hts gX12_gets_X12_packOf rfl rfl rfl (by decide +kernel) ⟨Nat.le_of_ble_eq_true rfl, Nat.le_of_ble_eq_true rfl⟩) mt_T147 rfl rfl hl.1 rfl (Nat.le_of_ble_eq_true rfl) dX12_gets_8 ⟨Nat.zero_le _, Nat.zero_le _⟩) hS (fun H locs hH hS => ?_)
  refine lv_iadd hx hb dX12_gets_11 ?_
  refine mt_lti hf (fun x4 ex4 hf => ?_)
  refine lv_istore_n (lv' := [(2, .int x4), (0, .ref (E.2.1 147)), (1, .int a1)]) hx hb dX12_gets_12 rfl hl (by decide) rfl (fun ls hl => ?_)
  refine lv_aload_n hx hb dX12_gets_13 rfl (lv_at hl 1 rfl) ?_
  refine mt_getr (C := RX12) (T := TX12) (N := 29) hx hb hts hinX12 hown hI hH mt_T147 rfl 4 (by decide) kw0 rfl rfl dX12_gets_14 ?_
  refine lv_iload_n hx hb dX12_gets_17 rfl (lv_at hl 2 rfl) ?_
  refine lv_iload_n hx hb dX12_gets_18 rfl (lv_at hl 0 rfl) ?_
  refine lv_bipush (v := 99) hx hb dX12_gets_19 (by decide) ?_
  refine mt_jn1 hf (fun (v5 : Int32) => ∀ (H : Heap) (locs : List Loc) (ls : Array Slot), mt_H E M u H → va_S (mt_A E) s.heap H locs → lv_has ls 3 [(0, .ref (E.2.1 147)), (1, .int a1)] → W p l e (headSpec wsX12_gets ({ frames := 1, cells := 0, slots := 0, locals := 22 } : Room)).room s mid (([.ref (E.2.1 147), .int a1] : List Value).toArray) below meth c0 H locs 0 0 (MQ below (mt_Qv E M' u) (([.ref (E.2.1 147), .int a1] : List Value).toArray) s 0 0 (mt_A E)) (F0 mid 30 ls [.int v5, .int a1, .ref (E.2.1 152)])) ?_ ?_
  · intro v5 hf H locs ls hH hS hl
    refine mt_ciI hf (fun q9 hf => ?_)
    refine mt_iast hx hb hI hH hS mt_T152 q9 dX12_gets_30 (fun H locs hH hS => ?_)
    refine mt_ltI hf (fun M8 eM8 hf => ?_)
    rw [← eM8] at hH
    refine lv_aload_n hx hb dX12_gets_31 rfl (lv_at hl 0 rfl) ?_
    refine mt_getr (C := RX12) (T := TX12) (N := 29) hx hb hts hinX12 hown hI hH mt_T147 rfl 7 (by decide) kw1 rfl rfl dX12_gets_32 ?_
    refine lv_iconst (v := 0) hx hb dX12_gets_35 (by decide) ?_
    refine lv_dup2_11 hx hb dX12_gets_36 rfl rfl ?_
    refine mt_iald hx hb hI hH mt_T155 (mt_vl (by decide)) dX12_gets_37 ?_
    refine lv_aload_n hx hb dX12_gets_38 rfl (lv_at hl 0 rfl) ?_
    refine lv_iload_n hx hb dX12_gets_39 rfl (lv_at hl 1 rfl) ?_
    refine mt_b1I hf (fun r11 hg10 hf => ?_)
    refine mt_goi (mt_runV (i := 147) (As := [.int a1]) (rest := [.int (M8 155 (0 : Int32).toNatClampNeg), .int (0 : Int32), .ref (E.2.1 155)]) ⟨hx, hb, hml, hown, hts⟩ hI hH (c_X12_priceOf l E a1 M8 u _ hg10) (cwV 1 hts gX12_gets_X12_priceOf rfl rfl rfl (by decide +kernel) ⟨Nat.le_of_ble_eq_true rfl, Nat.le_of_ble_eq_true rfl⟩) mt_T147 rfl rfl hl.1 rfl (Nat.le_of_ble_eq_true rfl) dX12_gets_40 ⟨Nat.zero_le _, Nat.zero_le _⟩) hS (fun H locs hH hS => ?_)
    refine lv_iadd hx hb dX12_gets_43 ?_
    refine mt_iast hx hb hI hH hS mt_T155 (mt_vl (by decide)) dX12_gets_44 (fun H locs hH hS => ?_)
    refine mt_ltI hf (fun M12 eM12 hf => ?_)
    rw [← eM12] at hH
    have i1 := mt_so1 hf
    subst i1
    exact mt_vret hx hb hr hI hH hS hlocks dX12_gets_45
  · intro j6 hj7 hf
    refine lv_icmp_le (tgt := 29) hx hb dX12_gets_21 (by decide) (fun c13 => ?_) (fun c13 => ?_)
    · have hf := mt_ifT c13 hf
      refine lv_iload_n hx hb dX12_gets_29 rfl (lv_at hl 0 rfl) ?_
      exact hj7 x4 hf _ _ _ hH hS (lv_sub hl [1, 2] rfl)
    · have hf := mt_ifF c13 hf
      refine lv_bipush (v := 99) hx hb dX12_gets_24 (by decide) ?_
      refine lv_goto (tgt := 30) hx hb dX12_gets_26 (by decide) ?_
      exact hj7 (99 : Int32) hf _ _ _ hH hS (lv_sub hl [1, 2] rfl)
set_option maxHeartbeats 4000000 in
set_option maxRecDepth 100000 in
theorem c_X12_buys (l : Launch) (E : mt_E) (a1 : Int32) (a2 : Int32) (M : mt_M) (u : mt_U) (M' : mt_M) (hf : f_X12_buys a1 a2 M = some (M')) : Met l yX12_buys wsX12_buys ({ frames := 2, cells := 0, slots := 0, locals := 44 } : Room) (mt_P E [.ref (E.2.1 147), .int a1, .int a2] M u) (mt_Qv E M' u) 0 0 (mt_A E) := by
  refine Met.ofW (cc := cX12_buys) (maxL := 3) (ret := none) (by decide) rfl ?_
  intro p e s mid args below meth c0 s₁ B hml hv
  obtain ⟨rfl, hI, hH⟩ := hv
  have hx := B.exec
  have hb := B.bytes
  have hr := B.returns
  have hts := atoms_spec (ws := wsX12_buys) B.pre
  have hown : s.vm.findClass RX12 = some mid.cls := findClass_of_methodNamed B.named
  have hlocks := B.notSynchronized
  have hS : va_S (mt_A E) s.heap s.heap [] := va_S.rf
  have hl := lv_entry ([.ref (E.2.1 147), .int a1, .int a2]) (n := 3) (Nat.le_of_ble_eq_true rfl)
  rw [lg_entry_eq]
  generalize (lg_sl ([.ref (E.2.1 147), .int a1, .int a2]) ++ List.replicate (3 - (lg_sl ([.ref (E.2.1 147), .int a1, .int a2])).length) Slot.unset).toArray = ls at hl ⊢
  have hl : lv_has ls 3 [(0, .ref (E.2.1 147)), (1, .int a1), (2, .int a2)] := hl
  unfold f_X12_buys at hf
  refine lv_aload_n hx hb dX12_buys_0 rfl (lv_at hl 0 rfl) ?_
  refine lv_iload_n hx hb dX12_buys_1 rfl (lv_at hl 1 rfl) ?_
  refine lv_iload_n hx hb dX12_buys_2 rfl (lv_at hl 2 rfl) ?_
  refine lv_iconst (v := 0) hx hb dX12_buys_3 (by decide) ?_
  refine mt_b1I hf (fun M2 hg1 hf => ?_)
  refine mt_gov (mt_runV (i := 147) (As := [.int a1, .int a2, .int (0 : Int32)]) (rest := []) ⟨hx, hb, hml, hown, hts⟩ hI hH (c_X12_marks l E a1 a2 (0 : Int32) M u _ hg1) (cwV 3 hts gX12_buys_X12_marks rfl rfl rfl (by decide +kernel) ⟨Nat.le_of_ble_eq_true rfl, Nat.le_of_ble_eq_true rfl⟩) mt_T147 rfl rfl hl.1 rfl (Nat.le_of_ble_eq_true rfl) dX12_buys_4 ⟨Nat.zero_le _, Nat.zero_le _⟩) hS (fun H locs hH hS => ?_)
  refine lv_aload_n hx hb dX12_buys_7 rfl (lv_at hl 0 rfl) ?_
  refine lv_iload_n hx hb dX12_buys_8 rfl (lv_at hl 2 rfl) ?_
  refine mt_b1I hf (fun M4 hg3 hf => ?_)
  refine mt_gov (mt_runV (i := 147) (As := [.int a2]) (rest := []) ⟨hx, hb, hml, hown, hts⟩ hI hH (c_X12_gets l E a2 M2 u _ hg3) (cwV 1 hts gX12_buys_X12_gets rfl rfl rfl (by decide +kernel) ⟨Nat.le_of_ble_eq_true rfl, Nat.le_of_ble_eq_true rfl⟩) mt_T147 rfl rfl hl.1 rfl (Nat.le_of_ble_eq_true rfl) dX12_buys_9 ⟨Nat.zero_le _, Nat.zero_le _⟩) hS (fun H locs hH hS => ?_)
  have i1 := mt_so1 hf
  subst i1
  exact mt_vret hx hb hr hI hH hS hlocks dX12_buys_12
set_option maxHeartbeats 4000000 in
set_option maxRecDepth 100000 in
theorem c_X12_comesLine (l : Launch) (E : mt_E) (a1 : Int32) (a2 : Int32) (a3 : Int32) (M : mt_M) (u : mt_U) (r : Int32) (M' : mt_M) (hf : f_X12_comesLine a1 a2 a3 M = some (r, M')) : Met l yX12_comesLine wsX12_comesLine ({ frames := 3, cells := 0, slots := 0, locals := 66 } : Room) (mt_P E [.ref (E.2.1 147), .int a1, .int a2, .int a3] M u) (mt_Qi E r M' u) 0 0 (mt_A E) := by
  refine Met.ofW (cc := cX12_comesLine) (maxL := 4) (ret := (some .boolean)) (by decide) rfl ?_
  intro p e s mid args below meth c0 s₁ B hml hv
  obtain ⟨rfl, hI, hH⟩ := hv
  have hx := B.exec
  have hb := B.bytes
  have hr := B.returns
  have hts := atoms_spec (ws := wsX12_comesLine) B.pre
  have hown : s.vm.findClass RX12 = some mid.cls := findClass_of_methodNamed B.named
  have hlocks := B.notSynchronized
  have hS : va_S (mt_A E) s.heap s.heap [] := va_S.rf
  have hl := lv_entry ([.ref (E.2.1 147), .int a1, .int a2, .int a3]) (n := 4) (Nat.le_of_ble_eq_true rfl)
  rw [lg_entry_eq]
  generalize (lg_sl ([.ref (E.2.1 147), .int a1, .int a2, .int a3]) ++ List.replicate (4 - (lg_sl ([.ref (E.2.1 147), .int a1, .int a2, .int a3])).length) Slot.unset).toArray = ls at hl ⊢
  have hl : lv_has ls 4 [(0, .ref (E.2.1 147)), (1, .int a1), (2, .int a2), (3, .int a3)] := hl
  unfold f_X12_comesLine at hf
  have kw0 := hts (.fieldLink RX12 110 "MilkTwiceModel" "now" "I") (List.mem_of_getElem? (i := 1) rfl)
  have hinX12 : ∀ w ∈ u_ws RX12 TX12 29, w ∈ wsX12_comesLine := fun w h => List.mem_cons_of_mem _ (List.mem_append_right _ h)
  refine lv_aload_n hx hb dX12_comesLine_0 rfl (lv_at hl 0 rfl) ?_
  refine lv_iload_n hx hb dX12_comesLine_1 rfl (lv_at hl 2 rfl) ?_
  refine lv_iload_n hx hb dX12_comesLine_2 rfl (lv_at hl 3 rfl) ?_
  refine mt_b1I hf (fun r2 hg1 hf => ?_)
  refine mt_goi (mt_runV (i := 147) (As := [.int a2, .int a3]) (rest := []) ⟨hx, hb, hml, hown, hts⟩ hI hH (c_X12_isLine l E a2 a3 M u _ hg1) (cwV 2 hts gX12_comesLine_X12_isLine rfl rfl rfl (by decide +kernel) ⟨Nat.le_of_ble_eq_true rfl, Nat.le_of_ble_eq_true rfl⟩) mt_T147 rfl rfl hl.1 rfl (Nat.le_of_ble_eq_true rfl) dX12_comesLine_3 ⟨Nat.zero_le _, Nat.zero_le _⟩) hS (fun H locs hH hS => ?_)
  refine lv_if_eq (tgt := 19) hx hb dX12_comesLine_6 (by decide) (fun c3 => ?_) (fun c3 => ?_)
  · have hf := mt_ifT c3 hf
    refine lv_iconst (v := 0) hx hb dX12_comesLine_19 (by decide) ?_
    obtain ⟨i1, i2⟩ := mt_so2 hf
    subst i1
    subst i2
    exact mt_zret hx hb hr hI hH hS (by decide) hlocks dX12_comesLine_20
  · have hf := mt_ifF c3 hf
    refine lv_aload_n hx hb dX12_comesLine_9 rfl (lv_at hl 0 rfl) ?_
    refine mt_geti (C := RX12) (T := TX12) (N := 29) hx hb hts hinX12 hown hI hH mt_T147 rfl 9 (by decide) kw0 rfl rfl dX12_comesLine_10 ?_
    refine lv_sipush (v := 999) hx hb dX12_comesLine_13 (by decide) ?_
    refine lv_icmp_ne (tgt := 21) hx hb dX12_comesLine_16 (by decide) (fun c4 => ?_) (fun c4 => ?_)
    · have hf := mt_ifF c4 hf
      refine lv_iload_n hx hb dX12_comesLine_21 rfl (lv_at hl 1 rfl) ?_
      refine lv_bipush (v := 119) hx hb dX12_comesLine_22 (by decide) ?_
      refine mt_jn1 hf (fun (M5 : mt_M) => ∀ (H : Heap) (locs : List Loc) (ls : Array Slot), mt_H E M5 u H → va_S (mt_A E) s.heap H locs → lv_has ls 4 [(0, .ref (E.2.1 147)), (1, .int a1), (2, .int a2), (3, .int a3)] → W p l e (headSpec wsX12_comesLine ({ frames := 3, cells := 0, slots := 0, locals := 66 } : Room)).room s mid (([.ref (E.2.1 147), .int a1, .int a2, .int a3] : List Value).toArray) below meth c0 H locs 0 0 (MQ below (mt_Qi E r M' u) (([.ref (E.2.1 147), .int a1, .int a2, .int a3] : List Value).toArray) s 0 0 (mt_A E)) (F0 mid 34 ls [])) ?_ ?_
      · intro M5 hf H locs ls hH hS hl
        refine lv_iload_n hx hb dX12_comesLine_34 rfl (lv_at hl 1 rfl) ?_
        refine lv_bipush (v := 107) hx hb dX12_comesLine_35 (by decide) ?_
        refine mt_jn1 hf (fun (M8 : mt_M) => ∀ (H : Heap) (locs : List Loc) (ls : Array Slot), mt_H E M8 u H → va_S (mt_A E) s.heap H locs → lv_has ls 4 [(0, .ref (E.2.1 147)), (1, .int a1), (2, .int a2), (3, .int a3)] → W p l e (headSpec wsX12_comesLine ({ frames := 3, cells := 0, slots := 0, locals := 66 } : Room)).room s mid (([.ref (E.2.1 147), .int a1, .int a2, .int a3] : List Value).toArray) below meth c0 H locs 0 0 (MQ below (mt_Qi E r M' u) (([.ref (E.2.1 147), .int a1, .int a2, .int a3] : List Value).toArray) s 0 0 (mt_A E)) (F0 mid 46 ls [])) ?_ ?_
        · intro M8 hf H locs ls hH hS hl
          refine lv_iload_n hx hb dX12_comesLine_46 rfl (lv_at hl 1 rfl) ?_
          refine lv_bipush (v := 120) hx hb dX12_comesLine_47 (by decide) ?_
          refine lv_icmp_ne (tgt := 59) hx hb dX12_comesLine_49 (by decide) (fun c11 => ?_) (fun c11 => ?_)
          · have hf := mt_ifF c11 hf
            refine lv_iconst (v := 1) hx hb dX12_comesLine_59 (by decide) ?_
            obtain ⟨i1, i2⟩ := mt_so2 hf
            subst i1
            subst i2
            exact mt_zret hx hb hr hI hH hS (by decide) hlocks dX12_comesLine_60
          · have hf := mt_ifT c11 hf
            refine lv_aload_n hx hb dX12_comesLine_52 rfl (lv_at hl 0 rfl) ?_
            refine lv_iload_n hx hb dX12_comesLine_53 rfl (lv_at hl 2 rfl) ?_
            refine lv_iload_n hx hb dX12_comesLine_54 rfl (lv_at hl 3 rfl) ?_
            refine lv_iconst (v := 0) hx hb dX12_comesLine_55 (by decide) ?_
            refine mt_b1I hf (fun M13 hg12 hf => ?_)
            refine mt_gov (mt_runV (i := 147) (As := [.int a2, .int a3, .int (0 : Int32)]) (rest := []) ⟨hx, hb, hml, hown, hts⟩ hI hH (c_X12_marks l E a2 a3 (0 : Int32) M8 u _ hg12) (cwV 3 hts gX12_comesLine_X12_marks rfl rfl rfl (by decide +kernel) ⟨Nat.le_of_ble_eq_true rfl, Nat.le_of_ble_eq_true rfl⟩) mt_T147 rfl rfl hl.1 rfl (Nat.le_of_ble_eq_true rfl) dX12_comesLine_56 ⟨Nat.zero_le _, Nat.zero_le _⟩) hS (fun H locs hH hS => ?_)
            refine lv_iconst (v := 1) hx hb dX12_comesLine_59 (by decide) ?_
            obtain ⟨i1, i2⟩ := mt_so2 hf
            subst i1
            subst i2
            exact mt_zret hx hb hr hI hH hS (by decide) hlocks dX12_comesLine_60
        · intro j9 hj10 hf
          refine lv_icmp_ne (tgt := 46) hx hb dX12_comesLine_37 (by decide) (fun c14 => ?_) (fun c14 => ?_)
          · have hf := mt_ifF c14 hf
            exact hj10 M5 hf _ _ _ hH hS (lv_sub hl [0, 1, 2, 3] rfl)
          · have hf := mt_ifT c14 hf
            refine lv_aload_n hx hb dX12_comesLine_40 rfl (lv_at hl 0 rfl) ?_
            refine lv_iload_n hx hb dX12_comesLine_41 rfl (lv_at hl 2 rfl) ?_
            refine lv_iload_n hx hb dX12_comesLine_42 rfl (lv_at hl 3 rfl) ?_
            refine mt_b1I hf (fun M16 hg15 hf => ?_)
            refine mt_gov (mt_runV (i := 147) (As := [.int a2, .int a3]) (rest := []) ⟨hx, hb, hml, hown, hts⟩ hI hH (c_X12_buys l E a2 a3 M5 u _ hg15) (cwV 2 hts gX12_comesLine_X12_buys rfl rfl rfl (by decide +kernel) ⟨Nat.le_of_ble_eq_true rfl, Nat.le_of_ble_eq_true rfl⟩) mt_T147 rfl rfl hl.1 rfl (Nat.le_of_ble_eq_true rfl) dX12_comesLine_43 ⟨Nat.zero_le _, Nat.zero_le _⟩) hS (fun H locs hH hS => ?_)
            exact hj10 M16 hf _ _ _ hH hS (lv_sub hl [0, 1, 2, 3] rfl)
      · intro j6 hj7 hf
        refine lv_icmp_ne (tgt := 34) hx hb dX12_comesLine_24 (by decide) (fun c17 => ?_) (fun c17 => ?_)
        · have hf := mt_ifF c17 hf
          exact hj7 M hf _ _ _ hH hS (lv_sub hl [0, 1, 2, 3] rfl)
        · have hf := mt_ifT c17 hf
          refine lv_aload_n hx hb dX12_comesLine_27 rfl (lv_at hl 0 rfl) ?_
          refine lv_iload_n hx hb dX12_comesLine_28 rfl (lv_at hl 2 rfl) ?_
          refine lv_iload_n hx hb dX12_comesLine_29 rfl (lv_at hl 3 rfl) ?_
          refine lv_iconst (v := 1) hx hb dX12_comesLine_30 (by decide) ?_
          refine mt_b1I hf (fun M19 hg18 hf => ?_)
          refine mt_gov (mt_runV (i := 147) (As := [.int a2, .int a3, .int (1 : Int32)]) (rest := []) ⟨hx, hb, hml, hown, hts⟩ hI hH (c_X12_marks l E a2 a3 (1 : Int32) M u _ hg18) (cwV 3 hts gX12_comesLine_X12_marks rfl rfl rfl (by decide +kernel) ⟨Nat.le_of_ble_eq_true rfl, Nat.le_of_ble_eq_true rfl⟩) mt_T147 rfl rfl hl.1 rfl (Nat.le_of_ble_eq_true rfl) dX12_comesLine_31 ⟨Nat.zero_le _, Nat.zero_le _⟩) hS (fun H locs hH hS => ?_)
          exact hj7 M19 hf _ _ _ hH hS (lv_sub hl [0, 1, 2, 3] rfl)
    · have hf := mt_ifT c4 hf
      refine lv_iconst (v := 0) hx hb dX12_comesLine_19 (by decide) ?_
      obtain ⟨i1, i2⟩ := mt_so2 hf
      subst i1
      subst i2
      exact mt_zret hx hb hr hI hH hS (by decide) hlocks dX12_comesLine_20
set_option maxHeartbeats 4000000 in
set_option maxRecDepth 100000 in
theorem c_X12_lostOf (l : Launch) (E : mt_E) (a1 : Int32) (M : mt_M) (u : mt_U) (r : Int32) (hf : f_X12_lostOf a1 M = some (r)) : Met l yX12_lostOf wsX12_lostOf ({ frames := 0, cells := 0, slots := 0, locals := 0 } : Room) (mt_P E [.ref (E.2.1 147), .int a1] M u) (mt_Qi E r M u) 0 0 (mt_A E) := by
  refine Met.ofW (cc := cX12_lostOf) (maxL := 3) (ret := (some .int)) (by decide) rfl ?_
  intro p e s mid args below meth c0 s₁ B hml hv
  obtain ⟨rfl, hI, hH⟩ := hv
  have hx := B.exec
  have hb := B.bytes
  have hr := B.returns
  have hts := atoms_spec (ws := wsX12_lostOf) B.pre
  have hown : s.vm.findClass RX12 = some mid.cls := findClass_of_methodNamed B.named
  have hlocks := B.notSynchronized
  have hS : va_S (mt_A E) s.heap s.heap [] := va_S.rf
  have hl := lv_entry ([.ref (E.2.1 147), .int a1]) (n := 3) (Nat.le_of_ble_eq_true rfl)
  rw [lg_entry_eq]
  generalize (lg_sl ([.ref (E.2.1 147), .int a1]) ++ List.replicate (3 - (lg_sl ([.ref (E.2.1 147), .int a1])).length) Slot.unset).toArray = ls at hl ⊢
  have hl : lv_has ls 3 [(0, .ref (E.2.1 147)), (1, .int a1)] := hl
  unfold f_X12_lostOf at hf
  have kw0 := hts (.fieldLink RX12 22 "MilkTwiceModel" "stocked" "[I") (List.mem_of_getElem? (i := 1) rfl)
  have kw1 := hts (.fieldLink RX12 16 "MilkTwiceModel" "figure" "[I") (List.mem_of_getElem? (i := 2) rfl)
  have kw2 := hts (.fieldLink RX12 13 "MilkTwiceModel" "kind" "[I") (List.mem_of_getElem? (i := 3) rfl)
  have hinX12 : ∀ w ∈ u_ws RX12 TX12 29, w ∈ wsX12_lostOf := fun w h => List.mem_cons_of_mem _ (List.mem_append_right _ h)
  refine lv_aload_n hx hb dX12_lostOf_0 rfl (lv_at hl 0 rfl) ?_
  refine mt_getr (C := RX12) (T := TX12) (N := 29) hx hb hts hinX12 hown hI hH mt_T147 rfl 4 (by decide) kw0 rfl rfl dX12_lostOf_1 ?_
  refine lv_iload_n hx hb dX12_lostOf_4 rfl (lv_at hl 1 rfl) ?_
  refine mt_ciI hf (fun q1 hf => ?_)
  refine mt_iald hx hb hI hH mt_T152 q1 dX12_lostOf_5 ?_
  refine lv_aload_n hx hb dX12_lostOf_6 rfl (lv_at hl 0 rfl) ?_
  refine mt_getr (C := RX12) (T := TX12) (N := 29) hx hb hts hinX12 hown hI hH mt_T147 rfl 2 (by decide) kw1 rfl rfl dX12_lostOf_7 ?_
  refine lv_iload_n hx hb dX12_lostOf_10 rfl (lv_at hl 1 rfl) ?_
  refine mt_ciI hf (fun q2 hf => ?_)
  refine mt_iald hx hb hI hH mt_T150 q2 dX12_lostOf_11 ?_
  refine mt_jn1 hf (fun (v3 : Int32) => ∀ (H : Heap) (locs : List Loc) (ls : Array Slot), mt_H E M u H → va_S (mt_A E) s.heap H locs → lv_has ls 3 [(0, .ref (E.2.1 147)), (1, .int a1)] → W p l e (headSpec wsX12_lostOf ({ frames := 0, cells := 0, slots := 0, locals := 0 } : Room)).room s mid (([.ref (E.2.1 147), .int a1] : List Value).toArray) below meth c0 H locs 0 0 (MQ below (mt_Qi E r M u) (([.ref (E.2.1 147), .int a1] : List Value).toArray) s 0 0 (mt_A E)) (F0 mid 32 ls [.int v3])) ?_ ?_
  · intro v3 hf H locs ls hH hS hl
    refine lv_istore_n (lv' := [(2, .int v3), (0, .ref (E.2.1 147)), (1, .int a1)]) hx hb dX12_lostOf_32 rfl hl (by decide) rfl (fun ls hl => ?_)
    refine lv_aload_n hx hb dX12_lostOf_33 rfl (lv_at hl 1 rfl) ?_
    refine mt_getr (C := RX12) (T := TX12) (N := 29) hx hb hts hinX12 hown hI hH mt_T147 rfl 1 (by decide) kw2 rfl rfl dX12_lostOf_34 ?_
    refine lv_iload_n hx hb dX12_lostOf_37 rfl (lv_at hl 2 rfl) ?_
    refine mt_ciI hf (fun q6 hf => ?_)
    refine mt_iald hx hb hI hH mt_T149 q6 dX12_lostOf_38 ?_
    refine lv_iconst (v := 1) hx hb dX12_lostOf_39 (by decide) ?_
    refine lv_icmp_ne (tgt := 49) hx hb dX12_lostOf_40 (by decide) (fun c7 => ?_) (fun c7 => ?_)
    · have hf := mt_ifF c7 hf
      refine lv_aload_n hx hb dX12_lostOf_49 rfl (lv_at hl 1 rfl) ?_
      refine mt_getr (C := RX12) (T := TX12) (N := 29) hx hb hts hinX12 hown hI hH mt_T147 rfl 1 (by decide) kw2 rfl rfl dX12_lostOf_50 ?_
      refine lv_iload_n hx hb dX12_lostOf_53 rfl (lv_at hl 2 rfl) ?_
      refine mt_ciI hf (fun q8 hf => ?_)
      refine mt_iald hx hb hI hH mt_T149 q8 dX12_lostOf_54 ?_
      refine lv_iconst (v := 4) hx hb dX12_lostOf_55 (by decide) ?_
      refine lv_icmp_ne (tgt := 63) hx hb dX12_lostOf_56 (by decide) (fun c9 => ?_) (fun c9 => ?_)
      · have hf := mt_ifF c9 hf
        refine lv_iconst (v := 0) hx hb dX12_lostOf_63 (by decide) ?_
        have i1 := mt_so1 hf
        subst i1
        exact mt_iret hx hb hr hI hH hS hlocks dX12_lostOf_64
      · have hf := mt_ifT c9 hf
        refine lv_iload_n hx hb dX12_lostOf_59 rfl (lv_at hl 0 rfl) ?_
        refine lv_goto (tgt := 64) hx hb dX12_lostOf_60 (by decide) ?_
        have i1 := mt_so1 hf
        subst i1
        exact mt_iret hx hb hr hI hH hS hlocks dX12_lostOf_64
    · have hf := mt_ifT c7 hf
      refine lv_iload_n hx hb dX12_lostOf_43 rfl (lv_at hl 0 rfl) ?_
      refine lv_iconst (v := 2) hx hb dX12_lostOf_44 (by decide) ?_
      refine lv_idiv hx hb dX12_lostOf_45 (by decide) ?_
      refine lv_goto (tgt := 64) hx hb dX12_lostOf_46 (by decide) ?_
      have i1 := mt_so1 hf
      subst i1
      exact mt_iret hx hb hr hI hH hS hlocks dX12_lostOf_64
  · intro j4 hj5 hf
    refine lv_icmp_le (tgt := 31) hx hb dX12_lostOf_12 (by decide) (fun c10 => ?_) (fun c10 => ?_)
    · have hf := mt_ifT c10 hf
      refine lv_iconst (v := 0) hx hb dX12_lostOf_31 (by decide) ?_
      exact hj5 (0 : Int32) hf _ _ _ hH hS (lv_sub hl [0, 1] rfl)
    · have hf := mt_ifF c10 hf
      refine lv_aload_n hx hb dX12_lostOf_15 rfl (lv_at hl 0 rfl) ?_
      refine mt_getr (C := RX12) (T := TX12) (N := 29) hx hb hts hinX12 hown hI hH mt_T147 rfl 4 (by decide) kw0 rfl rfl dX12_lostOf_16 ?_
      refine lv_iload_n hx hb dX12_lostOf_19 rfl (lv_at hl 1 rfl) ?_
      refine mt_ciI hf (fun q11 hf => ?_)
      refine mt_iald hx hb hI hH mt_T152 q11 dX12_lostOf_20 ?_
      refine lv_aload_n hx hb dX12_lostOf_21 rfl (lv_at hl 0 rfl) ?_
      refine mt_getr (C := RX12) (T := TX12) (N := 29) hx hb hts hinX12 hown hI hH mt_T147 rfl 2 (by decide) kw1 rfl rfl dX12_lostOf_22 ?_
      refine lv_iload_n hx hb dX12_lostOf_25 rfl (lv_at hl 1 rfl) ?_
      refine mt_ciI hf (fun q12 hf => ?_)
      refine mt_iald hx hb hI hH mt_T150 q12 dX12_lostOf_26 ?_
      refine lv_isub hx hb dX12_lostOf_27 ?_
      refine lv_goto (tgt := 32) hx hb dX12_lostOf_28 (by decide) ?_
      exact hj5 ((M 152 a1.toNatClampNeg) - (M 150 a1.toNatClampNeg)) hf _ _ _ hH hS (lv_sub hl [0, 1] rfl)

/-! THE CONSTRUCTORS: the history -/
def pc_hs (t : ClassId) (K : Nat) (a : Nat → Nat) : Nat → va_W
  | 0 => []
  | i + 1 => pc_hs t K a i ++ pc_hou t K (a (11 * i + 1)) (fun k => a (11 * i + 2 + k))
def pc_his (t tH : ClassId) (K v : Nat) (a : Nat → Nat) : va_W := [(v, .inr (3, [.ref (a 0), .int 0, .int 0])), (a 0, .inl (tH, 8, .inr (.inr (.inr (.inr (fun j => if j < 8 then some (a (11 * j + 1)) else none))))))] ++ pc_hs t K a 8
theorem pc_cup_congr {t : ClassId} {K c : Nat} {a b : Nat → Nat} (h : ∀ k, k < 7 → a k = b k) : pc_cup t K c a = pc_cup t K c b := by
  unfold pc_cup
  rw [h 0 (by decide), h 1 (by decide), h 2 (by decide), h 3 (by decide), h 4 (by decide), h 5 (by decide), h 6 (by decide)]
theorem pc_hou_congr {t : ClassId} {K c : Nat} {a b : Nat → Nat} (h : ∀ k, k < 10 → a k = b k) : pc_hou t K c a = pc_hou t K c b := by
  unfold pc_hou
  rw [h 0 (by decide), h 1 (by decide), h 2 (by decide), pc_cup_congr (a := fun j => a (j + 3)) (b := fun j => b (j + 3)) (fun k hk => h (k + 3) (by omega))]
theorem pc_hs_congr {t : ClassId} {K : Nat} {a b : Nat → Nat} : ∀ i, (∀ k, k < 11 * i + 1 → a k = b k) → pc_hs t K a i = pc_hs t K b i
  | 0, _ => rfl
  | i + 1, h => by
    unfold pc_hs
    rw [pc_hs_congr i (fun k hk => h k (by omega)), h (11 * i + 1) (by omega), pc_hou_congr (a := fun k => a (11 * i + 2 + k)) (b := fun k => b (11 * i + 2 + k)) (fun k hk => h _ (by omega))]
theorem pc_his_congr {t tH : ClassId} {K v : Nat} {a b : Nat → Nat} (h : ∀ k, k < 89 → a k = b k) : pc_his t tH K v a = pc_his t tH K v b := by
  unfold pc_his
  have e : (fun j => if j < 8 then some (a (11 * j + 1)) else none) = (fun j => if j < 8 then some (b (11 * j + 1)) else none) := by
    funext j
    by_cases q : j < 8
    · rw [if_pos q, if_pos q, h _ (by omega)]
    · rw [if_neg q, if_neg q]
  rw [h 0 (by decide), e, pc_hs_congr 8 (fun k hk => h k (by omega))]
def pc_nx (a : Nat → Nat) (i q : Nat) (b : Nat → Nat) : Nat → Nat := fun n => if n < 11 * i + 1 then a n else if n = 11 * i + 1 then q else b (n - (11 * i + 2))
theorem pc_his_step (t tH : ClassId) (K v : Nat) (a : Nat → Nat) (i q : Nat) (b : Nat → Nat) : [(v, .inr (3, [.ref (a 0), .int 0, .int 0])), (a 0, .inl (tH, 8, .inr (.inr (.inr (.inr (va_up (fun j => if j < i then some (a (11 * j + 1)) else none) i (some q)))))))] ++ pc_hs t K a i ++ pc_hou t K q b = ([(v, .inr (3, [.ref (pc_nx a i q b 0), .int 0, .int 0])), (pc_nx a i q b 0, .inl (tH, 8, .inr (.inr (.inr (.inr (fun j => if j < i + 1 then some (pc_nx a i q b (11 * j + 1)) else none))))))] ++ pc_hs t K (pc_nx a i q b) (i + 1) : va_W) := by
  have e0 : pc_nx a i q b 0 = a 0 := if_pos (by omega)
  have e1 : pc_nx a i q b (11 * i + 1) = q := by unfold pc_nx; rw [if_neg (by omega), if_pos rfl]
  have e2 : (fun k => pc_nx a i q b (11 * i + 2 + k)) = b := by
    funext k
    unfold pc_nx
    rw [if_neg (by omega), if_neg (by omega)]
    exact congrArg b (by omega)
  have e3 : pc_hs t K (pc_nx a i q b) i = pc_hs t K a i := pc_hs_congr i (fun k hk => if_pos hk)
  have e4 : (fun j => if j < i + 1 then some (pc_nx a i q b (11 * j + 1)) else none) = va_up (fun j => if j < i then some (a (11 * j + 1)) else none) i (some q) := by
    funext j
    unfold va_up
    by_cases z : j = i
    · subst z; rw [if_pos (by omega), if_pos rfl, e1]
    · rw [if_neg z]
      dsimp only
      by_cases y : j < i
      · rw [if_pos y, if_pos (by omega)]; exact congrArg some (if_pos (by omega))
      · rw [if_neg y, if_neg (by omega)]
  rw [e4, e0, List.append_assoc]
  show _ = _ ++ (pc_hs t K (pc_nx a i q b) i ++ pc_hou t K (pc_nx a i q b (11 * i + 1)) (fun k => pc_nx a i q b (11 * i + 2 + k)))
  rw [e1, e2, e3]
set_option maxHeartbeats 4000000 in
set_option maxRecDepth 100000 in
theorem c_X3_init (l : Launch) (E : mt_E) (v K sz : Nat) : Met l yX3_init wsX3_init ({ frames := 3, cells := 89, slots := 672, locals := 54 } : Room) (pc_P E [.ref v, .ref K] [(v, .inr (3, [.null, .int 0, .int 0]))] sz) (pc_Q E [(v, .inr (3, [.null, .int 0, .int 0]))] sz (fun a => pc_his E.2.2.1.1 E.2.2.1.2.2.1 K v a)) 89 672 (va_A [(v, .inr (3, [.null, .int 0, .int 0]))] sz) := by
  refine Met.ofW (cc := cX3_init) (maxL := 3) (ret := none) (by decide) rfl ?_
  intro p e s mid args below meth c0 s₁ B hml hv
  obtain ⟨rfl, hsz, hG, hP, hD0⟩ := hv
  have hx := B.exec
  have hb := B.bytes
  have hr := B.returns
  have hts := atoms_spec (ws := wsX3_init) B.pre
  have hown : s.vm.findClass RX3 = some mid.cls := findClass_of_methodNamed B.named
  have hlocks := B.notSynchronized
  have hin : meth.name = "<init>" := (name_of_methodNamed B.named B.method).1
  subst hsz
  have hD := hD0.self (sz := s.heap.size)
  have hA : ∀ q : Nat, s.heap.size ≤ q → (va_A [(v, .inr (3, [.null, .int 0, .int 0]))] s.heap.size) q := fun q h => Or.inr h
  have hS : va_S (va_A [(v, .inr (3, [.null, .int 0, .int 0]))] s.heap.size) s.heap s.heap [] := va_S.rf
  have hinX3 : ∀ w ∈ u_ws RX3 TX3 3, w ∈ wsX3_init := fun w h => List.mem_cons_of_mem _ (List.mem_append_left _ (List.mem_append_left _ (List.mem_append_right _ h)))
  have hinX4 : ∀ w ∈ u_ws RX4 TX4 6, w ∈ wsX3_init := fun w h => List.mem_cons_of_mem _ (List.mem_append_left _ (List.mem_append_right _ h))
  have hinX0 : ∀ w ∈ u_ws RX0 TX0 12, w ∈ wsX3_init := fun w h => List.mem_cons_of_mem _ (List.mem_append_right _ h)
  have hl := lv_entry ([.ref v, .ref K]) (n := 3) (Nat.le_of_ble_eq_true rfl)
  rw [lg_entry_eq]
  generalize (lg_sl ([.ref v, .ref K]) ++ List.replicate (3 - (lg_sl ([.ref v, .ref K])).length) Slot.unset).toArray = ls at hl ⊢
  have hl : lv_has ls 3 [(0, .ref v), (1, .ref K)] := hl
  have loop : ∀ (n i : Nat) (a : Nat → Nat) (H : Heap) (locs : List Loc) (ls : Array Slot), i + n = 8 → va_P E.1 vwCl ([(v, .inr (3, [.ref (a 0), .int 0, .int 0])), (a 0, .inl (E.2.2.1.2.2.1, 8, .inr (.inr (.inr (.inr (fun j => if j < i then some (a (11 * j + 1)) else none))))))] ++ pc_hs E.2.2.1.1 K a i) H → va_D (va_A [(v, .inr (3, [.null, .int 0, .int 0]))] s.heap.size) ([(v, .inr (3, [.ref (a 0), .int 0, .int 0])), (a 0, .inl (E.2.2.1.2.2.1, 8, .inr (.inr (.inr (.inr (fun j => if j < i then some (a (11 * j + 1)) else none))))))] ++ pc_hs E.2.2.1.1 K a i) → va_S (va_A [(v, .inr (3, [.null, .int 0, .int 0]))] s.heap.size) s.heap H locs → lv_has ls 3 [(2, .int (nI i)), (0, .ref v), (1, .ref K)] → W p l e (headSpec wsX3_init ({ frames := 3, cells := 89, slots := 672, locals := 54 } : Room)).room s mid (([.ref v, .ref K] : List Value).toArray) below meth c0 H locs (1 + 11 * i) (8 + 83 * i) (MQ below (pc_Q E [(v, .inr (3, [.null, .int 0, .int 0]))] s.heap.size (fun a => pc_his E.2.2.1.1 E.2.2.1.2.2.1 K v a)) (([.ref v, .ref K] : List Value).toArray) s 89 672 (va_A [(v, .inr (3, [.null, .int 0, .int 0]))] s.heap.size)) (F0 mid 15 ls []) := by
    intro n
    induction n with
    | zero =>
      intro i a H locs ls hi hP hD hS hl
      have hi : i = 8 := by omega
      subst hi
      refine lv_iload_n hx hb dX3_init_15 rfl (lv_at hl 0 rfl) ?_
      refine lv_bipush (v := 8) hx hb dX3_init_16 (by decide) ?_
      refine lv_icmp_ge (tgt := 41) hx hb dX3_init_18 (by decide) (fun c1 => ?_) (fun c1 => ?_)
      · refine W.widen (k := 89) (n := 672) (Nat.le_of_ble_eq_true rfl) (Nat.le_of_ble_eq_true rfl) ?_
        have hP9 : va_P E.1 vwCl (pc_his E.2.2.1.1 E.2.2.1.2.2.1 K v a) H := hP
        exact W.vret hx hb hr (fun t ht hW => ⟨⟨a, rfl, trivial, by rw [ht]; exact hP9, hD⟩, hS.F ht⟩) hS.2.2 dX3_init_41
      · exact absurd (nI_le (Nat.le_refl 8) (by decide)) c1
    | succ n ih =>
      intro i a H locs ls hi hP hD hS hl
      have hi8 : i < 8 := by omega
      refine lv_iload_n hx hb dX3_init_15 rfl (lv_at hl 0 rfl) ?_
      refine lv_bipush (v := 8) hx hb dX3_init_16 (by decide) ?_
      refine lv_icmp_ge (tgt := 41) hx hb dX3_init_18 (by decide) (fun c1 => ?_) (fun c1 => ?_)
      · exact absurd c1 (nI_ge hi8 (by decide))
      · refine lv_aload_n hx hb dX3_init_21 rfl (lv_at hl 1 rfl) ?_
        refine va_get (C := RX3) (T := TX3) (N := 3) (v := .ref (a 0)) hx hb hts hinX3 hown hG.1.1 hP 0 rfl rfl 0 (by decide) (hts (.fieldLink RX3 11 "MilkTwice$History" "kept" "[LMilkTwice$House;") (List.mem_of_getElem? (i := 5) rfl)) (fun x h => h) rfl dX3_init_22 ?_
        refine lv_iload_n hx hb dX3_init_25 rfl (lv_at hl 0 rfl) ?_
        refine va_new (ci := 4) (fs := [.null, .null, .null, .int 0, .int 0, .int 0]) (C := RX4) (T := TX4) (N := 6) hx hb hts hinX4 tyX4 tyX4_ok hown (hts (.classLink RX3 9 RX4) (List.mem_of_getElem? (i := 4) rfl)) (hts (.instantiable RX4 6) (List.mem_of_getElem? (i := 6) rfl)) (hts (.initialized RX4) (List.mem_of_getElem? (i := 7) rfl)) hG.1.1 hP hD hS hA rfl (fun j hj => by rcases (show j = 0 ∨ j = 1 ∨ j = 2 ∨ j = 3 ∨ j = 4 ∨ j = 5 by omega) with rfl | rfl | rfl | rfl | rfl | rfl <;> rfl) (show 1 + 11 * i + 1 ≤ 89 by omega) (show 8 + 83 * i + 6 ≤ 672 by omega) dX3_init_26 (fun q H hP hD hS => ?_)
        refine lv_dup hx hb dX3_init_29 rfl ?_
        refine lv_aload_n hx hb dX3_init_30 rfl (lv_at hl 2 rfl) ?_
        refine pc_call (va_runI (As := [.ref K]) (rest := [.ref q, .int (nI i), .ref (a 0)]) ⟨hx, hb, hml, hown, hts⟩ (c_X4_init l E q K H.size) (cwI 1 hts gX3_init_X4_init rfl rfl rfl (hts (.initialized RX4) (List.mem_of_getElem? (i := 7) rfl)) (hts (.methodLink RX3 17 yX4_init) (List.mem_of_getElem? (i := 8) rfl)) (hts (.instanceMethod yX4_init) (List.mem_of_getElem? (i := 9) rfl)) rfl (by decide +kernel) ⟨Nat.le_of_ble_eq_true rfl, Nat.le_of_ble_eq_true rfl⟩) (pc_pre hG hP) rfl rfl hl.1 rfl (lv_room (Nat.le_of_ble_eq_true rfl)) dX3_init_31 ⟨show 1 + 11 * i + 1 + 10 ≤ 89 by omega, show 8 + 83 * i + 6 + 77 ≤ 672 by omega⟩) hP hD hS hA (fun b H locs hP hD hS => ?_)
        have hin9 : vp_in (nI i) 8 := vp_in_nI hi8 (by decide)
        refine va_astq (r := (RX4, TX4, 6)) (vs := [.ref (b 2), .ref (b 0), .ref (b 1), .int 0, .int 0, .int 0]) hx hb hG.1.1 hP hD hS 1 2 ([(v, .inr (3, [.ref (a 0), .int 0, .int 0])), (a 0, .inl (E.2.2.1.2.2.1, 8, .inr (.inr (.inr (.inr (fun j => if j < i then some (a (11 * j + 1)) else none))))))] ++ pc_hs E.2.2.1.1 K a i : va_W).length 4 rfl rfl (by rw [List.getElem?_append_right (Nat.le_refl _), Nat.sub_self]; rfl) rfl hin9 dX3_init_34 (fun H locs hP hD hS => ?_)
        rw [nI_clamp (show i < 2 ^ 31 by omega)] at hP hD
        have hP : va_P E.1 vwCl ([(v, .inr (3, [.ref ((pc_nx a i q b) 0), .int 0, .int 0])), ((pc_nx a i q b) 0, .inl (E.2.2.1.2.2.1, 8, .inr (.inr (.inr (.inr (fun j => if j < (i + 1) then some ((pc_nx a i q b) (11 * j + 1)) else none))))))] ++ pc_hs E.2.2.1.1 K (pc_nx a i q b) (i + 1)) H := by rw [← pc_his_step]; exact hP
        have hD : va_D (va_A [(v, .inr (3, [.null, .int 0, .int 0]))] s.heap.size) ([(v, .inr (3, [.ref ((pc_nx a i q b) 0), .int 0, .int 0])), ((pc_nx a i q b) 0, .inl (E.2.2.1.2.2.1, 8, .inr (.inr (.inr (.inr (fun j => if j < (i + 1) then some ((pc_nx a i q b) (11 * j + 1)) else none))))))] ++ pc_hs E.2.2.1.1 K (pc_nx a i q b) (i + 1)) := by rw [← pc_his_step]; exact hD
        refine lv_iinc (v := nI (i + 1)) (lv' := [(2, .int (nI (i + 1))), (0, .ref v), (1, .ref K)]) hx hb dX3_init_35 hl (k := 0) rfl (nI_1 i) (by decide) rfl (fun ls hl => ?_)
        refine lv_goto (tgt := 15) hx hb dX3_init_38 (by decide) ?_
        refine W.widen (k := 1 + 11 * (i + 1)) (n := 8 + 83 * (i + 1)) (by omega) (by omega) ?_
        exact ih (i + 1) (pc_nx a i q b) H locs ls (by omega) hP hD hS hl
  refine lv_aload_n hx hb dX3_init_0 rfl (lv_at hl 0 rfl) ?_
  refine W.objInit hx hb hown (hts (.methodLink RX3 3 objectInit) (List.mem_of_getElem? (i := 1) rfl)) (hts (.instanceMethod objectInit) (List.mem_of_getElem? (i := 2) rfl)) (hts (.code objectInit ⟨#[0xb1]⟩ 1 none) (List.mem_of_getElem? (i := 3) rfl)) rfl (by rw [hml]; exact hl.1) rfl dX3_init_1 (Nat.le_of_ble_eq_true rfl) (Nat.le_of_ble_eq_true rfl) ?_
  refine W.eq (g2 := F0 mid 4 ls []) rfl ?_
  refine lv_aload_n hx hb dX3_init_4 rfl (lv_at hl 0 rfl) ?_
  refine lv_bipush (v := 8) hx hb dX3_init_5 (by decide) ?_
  refine pc_newh hx hb hown (hts (.classLink RX3 9 RX4) (List.mem_of_getElem? (i := 4) rfl)) hG hP hD hS hA 8 (by decide) rfl (Nat.le_of_ble_eq_true rfl) (Nat.le_of_ble_eq_true rfl) (Nat.le_of_ble_eq_true rfl) dX3_init_7 (fun q1 H hP hD hS => ?_)
  have hP : va_P E.1 vwCl ([(v, .inr (3, [.null, .int 0, .int 0])), (q1, .inl (E.2.2.1.2.2.1, 8, .inr (.inr (.inr (.inr (fun _ => none))))))]) H := hP
  have hD : va_D (va_A [(v, .inr (3, [.null, .int 0, .int 0]))] s.heap.size) ([(v, .inr (3, [.null, .int 0, .int 0])), (q1, .inl (E.2.2.1.2.2.1, 8, .inr (.inr (.inr (.inr (fun _ => none))))))]) := hD
  refine W.widen (k := 1) (n := 8) (Nat.le_of_ble_eq_true rfl) (Nat.le_of_ble_eq_true rfl) ?_
  refine va_putF (C := RX3) (T := TX3) (N := 3) (ty := tyX3 0) (v := .ref q1) hx hb hts hinX3 tyX3 tyX3_ok nmX3 hown hG.1.1 hP hD hS 0 rfl rfl 0 (by decide) (hts (.fieldLink RX3 11 "MilkTwice$History" "kept" "[LMilkTwice$House;") (List.mem_of_getElem? (i := 5) rfl)) (fun x h => h) rfl hin rfl (tyX3_ok 0 (by decide)) rfl rfl (Nat.le_of_ble_eq_true rfl) dX3_init_10 (fun H locs hP hD hS => ?_)
  have hP : va_P E.1 vwCl ([(v, .inr (3, [.ref q1, .int 0, .int 0])), (q1, .inl (E.2.2.1.2.2.1, 8, .inr (.inr (.inr (.inr (fun _ => none))))))]) H := hP
  have hD : va_D (va_A [(v, .inr (3, [.null, .int 0, .int 0]))] s.heap.size) ([(v, .inr (3, [.ref q1, .int 0, .int 0])), (q1, .inl (E.2.2.1.2.2.1, 8, .inr (.inr (.inr (.inr (fun _ => none))))))]) := hD
  refine lv_iconst (v := 0) hx hb dX3_init_13 (by decide) ?_
  refine lv_istore_n (lv' := [(2, .int (nI 0)), (0, .ref v), (1, .ref K)]) hx hb dX3_init_14 rfl hl (by decide) rfl (fun ls hl => ?_)
  have ez : (fun j : Nat => if j < 0 then some ((fun _ => q1 : Nat → Nat) (11 * j + 1)) else none) = fun _ => none := by funext j; rw [if_neg (by omega)]
  refine loop 8 0 (fun _ => q1) H locs ls rfl ?_ ?_ hS hl
  · rw [ez]; exact hP
  · rw [ez]; exact hD

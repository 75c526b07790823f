/-! THE WORLD AT THE START -/
def pc_W (E : mt_E) (lo : Nat) : Nat → va_W
  | 0 => []
  | n + 1 => (E.2.1 lo, mt_row E (fun _ => 0) (fun _ => 0) (mt_T lo)) :: pc_W E (lo + 1) n
theorem pc_W_app (E : mt_E) : ∀ (m lo n : Nat), pc_W E lo (m + n) = pc_W E lo m ++ pc_W E (lo + m) n
  | 0, lo, n => by rw [Nat.zero_add]; rfl
  | m + 1, lo, n => by
    rw [show m + 1 + n = (m + n) + 1 by omega]
    show _ :: pc_W E (lo + 1) (m + n) = _
    rw [pc_W_app E m (lo + 1) n, show lo + 1 + m = lo + (m + 1) by omega]
    rfl
theorem pc_W_get (E : mt_E) : ∀ (n lo i : Nat), i < n → (pc_W E lo n)[i]? = some (E.2.1 (lo + i), mt_row E (fun _ => 0) (fun _ => 0) (mt_T (lo + i)))
  | 0, _, i, h => absurd h (Nat.not_lt_zero i)
  | n + 1, lo, 0, _ => rfl
  | n + 1, lo, i + 1, h => by
    show (pc_W E (lo + 1) n)[i]? = _
    rw [pc_W_get E n (lo + 1) i (by omega), show lo + 1 + i = lo + (i + 1) by omega]
theorem pc_W_len (E : mt_E) : ∀ (n lo : Nat), (pc_W E lo n).length = n
  | 0, _ => rfl
  | n + 1, lo => by show (pc_W E (lo + 1) n).length + 1 = n + 1; rw [pc_W_len E n]
theorem pc_W_ws (E : mt_E) : mt_ws E (fun _ _ => 0) (fun _ => 0) = pc_W E 0 164 := by
  apply List.ext_getElem?
  intro j
  by_cases hj : j < 164
  · rw [mt_ws_get E _ _ hj, pc_W_get E 164 0 j hj, Nat.zero_add]
  · rw [List.getElem?_eq_none (by simp [mt_ws]; omega), List.getElem?_eq_none (by rw [pc_W_len]; omega)]
set_option maxRecDepth 100000 in
theorem pc_s0 (E : mt_E) : pc_W E 0 10 = [(E.2.1 0, .inr (11, [.ref (E.2.1 10), .ref (E.2.1 21), .ref (E.2.1 32), .int 0, .ref (E.2.1 43), .ref (E.2.1 133), .ref (E.2.1 145), .ref (E.2.1 1), .int 0, .ref (E.2.1 2)])), (E.2.1 1, pc_ar E.2.2.1.1 12), (E.2.1 2, pc_ar E.2.2.1.1 7), (E.2.1 3, .inl (E.2.2.1.2.2.2, 6, .inr (.inr (.inr (.inr (fun j => if j < 6 then some (E.2.1 (4 + j)) else none)))))), (E.2.1 4, .inr (6, [])), (E.2.1 5, .inr (9, [])), (E.2.1 6, .inr (5, [])), (E.2.1 7, .inr (1, [])), (E.2.1 8, .inr (2, [])), (E.2.1 9, .inr (10, []))] := rfl
set_option maxRecDepth 100000 in
theorem pc_s10 (E : mt_E) : pc_W E 10 11 = pc_hou E.2.2.1.1 (E.2.1 3) (E.2.1 10) (fun k => E.2.1 (k + 11)) := rfl
set_option maxRecDepth 100000 in
theorem pc_s21 (E : mt_E) : pc_W E 21 11 = pc_hou E.2.2.1.1 (E.2.1 3) (E.2.1 21) (fun k => E.2.1 (k + 22)) := rfl
set_option maxRecDepth 100000 in
theorem pc_s32 (E : mt_E) : pc_W E 32 11 = pc_hou E.2.2.1.1 (E.2.1 3) (E.2.1 32) (fun k => E.2.1 (k + 33)) := rfl
set_option maxRecDepth 100000 in
theorem pc_s45 (E : mt_E) : pc_W E 45 11 = pc_hou E.2.2.1.1 (E.2.1 3) (E.2.1 45) (fun k => E.2.1 (k + 46)) := rfl
set_option maxRecDepth 100000 in
theorem pc_s56 (E : mt_E) : pc_W E 56 11 = pc_hou E.2.2.1.1 (E.2.1 3) (E.2.1 56) (fun k => E.2.1 (k + 57)) := rfl
set_option maxRecDepth 100000 in
theorem pc_s67 (E : mt_E) : pc_W E 67 11 = pc_hou E.2.2.1.1 (E.2.1 3) (E.2.1 67) (fun k => E.2.1 (k + 68)) := rfl
set_option maxRecDepth 100000 in
theorem pc_s78 (E : mt_E) : pc_W E 78 11 = pc_hou E.2.2.1.1 (E.2.1 3) (E.2.1 78) (fun k => E.2.1 (k + 79)) := rfl
set_option maxRecDepth 100000 in
theorem pc_s89 (E : mt_E) : pc_W E 89 11 = pc_hou E.2.2.1.1 (E.2.1 3) (E.2.1 89) (fun k => E.2.1 (k + 90)) := rfl
set_option maxRecDepth 100000 in
theorem pc_s100 (E : mt_E) : pc_W E 100 11 = pc_hou E.2.2.1.1 (E.2.1 3) (E.2.1 100) (fun k => E.2.1 (k + 101)) := rfl
set_option maxRecDepth 100000 in
theorem pc_s111 (E : mt_E) : pc_W E 111 11 = pc_hou E.2.2.1.1 (E.2.1 3) (E.2.1 111) (fun k => E.2.1 (k + 112)) := rfl
set_option maxRecDepth 100000 in
theorem pc_s122 (E : mt_E) : pc_W E 122 11 = pc_hou E.2.2.1.1 (E.2.1 3) (E.2.1 122) (fun k => E.2.1 (k + 123)) := rfl
set_option maxRecDepth 100000 in
theorem pc_s43 (E : mt_E) : pc_W E 43 2 = [(E.2.1 43, .inr (3, [.ref (E.2.1 44), .int 0, .int 0])), (E.2.1 44, .inl (E.2.2.1.2.2.1, 8, .inr (.inr (.inr (.inr (fun j => if j < 8 then some (E.2.1 (45 + 11 * j)) else none))))))] := rfl
set_option maxRecDepth 100000 in
theorem pc_s133 (E : mt_E) : pc_W E 133 12 = pc_min E.2.2.1.1 (E.2.1 3) (E.2.1 10) (E.2.1 133) (fun k => E.2.1 (k + 134)) := rfl
set_option maxRecDepth 100000 in
theorem pc_s145 (E : mt_E) : pc_W E 145 2 = pc_let E.2.2.1.1 (E.2.1 145) (fun k => E.2.1 (k + 146)) := rfl
set_option maxRecDepth 100000 in
theorem pc_s147 (E : mt_E) : pc_W E 147 17 = pc_md E.2.2.1 (fun k => E.2.1 (k + 147)) := rfl
theorem pc_hs8 (E : mt_E) : pc_W E 45 88 = pc_hs E.2.2.1.1 (E.2.1 3) (fun k => E.2.1 (k + 44)) 8 := by
  rw [show (88 : Nat) = 11 + (11 + (11 + (11 + (11 + (11 + (11 + 11)))))) from rfl, pc_W_app, pc_W_app, pc_W_app, pc_W_app, pc_W_app, pc_W_app, pc_W_app]
  rw [show (45 + 11 : Nat) = 56 from rfl, show (56 + 11 : Nat) = 67 from rfl, show (67 + 11 : Nat) = 78 from rfl, show (78 + 11 : Nat) = 89 from rfl, show (89 + 11 : Nat) = 100 from rfl, show (100 + 11 : Nat) = 111 from rfl, show (111 + 11 : Nat) = 122 from rfl]
  rw [pc_s45, pc_s56, pc_s67, pc_s78, pc_s89, pc_s100, pc_s111, pc_s122]
  have hh : ∀ j : Nat, (fun k => E.2.1 (k + (45 + 11 * j + 1))) = (fun k => (fun k => E.2.1 (k + 44)) (11 * j + 2 + k)) := fun j => by
    funext k
    exact congrArg E.2.1 (by omega)
  show _ = (((((((([] ++ pc_hou E.2.2.1.1 (E.2.1 3) (E.2.1 45) (fun k => (fun k => E.2.1 (k + 44)) (11 * 0 + 2 + k))) ++ pc_hou E.2.2.1.1 (E.2.1 3) (E.2.1 56) (fun k => (fun k => E.2.1 (k + 44)) (11 * 1 + 2 + k))) ++ pc_hou E.2.2.1.1 (E.2.1 3) (E.2.1 67) (fun k => (fun k => E.2.1 (k + 44)) (11 * 2 + 2 + k))) ++ pc_hou E.2.2.1.1 (E.2.1 3) (E.2.1 78) (fun k => (fun k => E.2.1 (k + 44)) (11 * 3 + 2 + k))) ++ pc_hou E.2.2.1.1 (E.2.1 3) (E.2.1 89) (fun k => (fun k => E.2.1 (k + 44)) (11 * 4 + 2 + k))) ++ pc_hou E.2.2.1.1 (E.2.1 3) (E.2.1 100) (fun k => (fun k => E.2.1 (k + 44)) (11 * 5 + 2 + k))) ++ pc_hou E.2.2.1.1 (E.2.1 3) (E.2.1 111) (fun k => (fun k => E.2.1 (k + 44)) (11 * 6 + 2 + k))) ++ pc_hou E.2.2.1.1 (E.2.1 3) (E.2.1 122) (fun k => (fun k => E.2.1 (k + 44)) (11 * 7 + 2 + k)))
  rw [← hh 0, ← hh 1, ← hh 2, ← hh 3, ← hh 4, ← hh 5, ← hh 6, ← hh 7]
  simp only [List.nil_append, List.append_assoc]
theorem pc_W_mt (E : mt_E) : pc_W E 0 147 = pc_mt E.2.2.1 E.2.1 := by
  rw [show (147 : Nat) = 10 + (11 + (11 + (11 + (2 + (88 + (12 + 2)))))) from rfl, pc_W_app, pc_W_app, pc_W_app, pc_W_app, pc_W_app, pc_W_app, pc_W_app]
  rw [show (0 + 10 : Nat) = 10 from rfl, show (10 + 11 : Nat) = 21 from rfl, show (21 + 11 : Nat) = 32 from rfl, show (32 + 11 : Nat) = 43 from rfl, show (43 + 2 : Nat) = 45 from rfl, show (45 + 88 : Nat) = 133 from rfl, show (133 + 12 : Nat) = 145 from rfl]
  rw [pc_s0, pc_s10, pc_s21, pc_s32, pc_s43, pc_hs8, pc_s133, pc_s145]
  have ef : (fun j => if j < 8 then some (E.2.1 (45 + 11 * j)) else none) = (fun j => if j < 8 then some ((fun k => E.2.1 (k + 44)) (11 * j + 1)) else none) := by
    funext j
    rw [show 45 + 11 * j = 11 * j + 1 + 44 by omega]
  rw [ef]
  unfold pc_mt pc_his
  simp only [List.append_assoc, Nat.zero_add]
theorem pc_mt_congr {t : ClassId × ClassId × ClassId × ClassId} {d f : Nat → Nat} (h : ∀ i, i < 147 → d i = f i) : pc_mt t d = pc_mt t f := by
  have ek : (fun j => if j < 6 then some (d (4 + j)) else none) = (fun j => if j < 6 then some (f (4 + j)) else none) := by
    funext j
    by_cases q : j < 6
    · rw [if_pos q, if_pos q, h _ (by omega)]
    · rw [if_neg q, if_neg q]
  unfold pc_mt
  rw [ek, h 0 (by decide), h 1 (by decide), h 2 (by decide), h 3 (by decide), h 4 (by decide), h 5 (by decide), h 6 (by decide), h 7 (by decide), h 8 (by decide), h 9 (by decide), h 10 (by decide), h 21 (by decide), h 32 (by decide), h 43 (by decide), h 133 (by decide), h 145 (by decide)]
  rw [pc_hou_congr (a := fun k => d (k + 11)) (b := fun k => f (k + 11)) (fun k hk => h _ (by omega)), pc_hou_congr (a := fun k => d (k + 22)) (b := fun k => f (k + 22)) (fun k hk => h _ (by omega)), pc_hou_congr (a := fun k => d (k + 33)) (b := fun k => f (k + 33)) (fun k hk => h _ (by omega)), pc_his_congr (a := fun k => d (k + 44)) (b := fun k => f (k + 44)) (fun k hk => h _ (by omega)), pc_min_congr (a := fun k => d (k + 134)) (b := fun k => f (k + 134)) (fun k hk => h _ (by omega)), pc_let_congr (a := fun k => d (k + 146)) (b := fun k => f (k + 146)) (fun k hk => h _ (by omega))]
theorem pc_wsE (E : mt_E) : mt_ws E (fun _ _ => 0) (fun _ => 0) = pc_mt E.2.2.1 E.2.1 ++ pc_md E.2.2.1 (fun k => E.2.1 (k + 147)) := by
  rw [pc_W_ws, show (164 : Nat) = 147 + 17 from rfl, pc_W_app, pc_W_mt, Nat.zero_add, pc_s147]
theorem pc_all (t : ClassId × ClassId × ClassId × ClassId) (x y : Nat) (a1 a2 : Nat → Nat) : ∃ ad : Nat → Nat, ad 0 = x ∧ ad 147 = y ∧ ∀ (G : va_G) (z : Nat), mt_ws (G, ad, t, z) (fun _ _ => 0) (fun _ => 0) = pc_mt t (pc_c x a1) ++ pc_md t (pc_c y a2) := by
  obtain ⟨ad, had⟩ : ∃ ad : Nat → Nat, ∀ i, ad i = if i < 147 then pc_c x a1 i else pc_c y a2 (i - 147) := ⟨_, fun _ => rfl⟩
  have e1 : pc_mt t ad = pc_mt t (pc_c x a1) := pc_mt_congr (fun i hi => by rw [had, if_pos hi])
  have ed : (fun k => ad (k + 147)) = pc_c y a2 := by
    funext k
    rw [had, if_neg (by omega), Nat.add_sub_cancel]
  refine ⟨ad, by rw [had]; rfl, by rw [had]; rfl, fun G z => ?_⟩
  have h := pc_wsE (G, ad, t, z)
  dsimp only at h
  rw [h, e1, ed]
/-- nothing yet: both memories agree -/
theorem rl_0 : rl (fun _ _ => 0) := by
  refine ⟨fun _ _ => 0, 0, 0, 0, fun _ => 0, 0, fun _ => 0, ?_, ?_, ?_, Or.inl ⟨rfl, rfl⟩, ?_, ?_, ?_, fun _ _ => rfl⟩
  · refine ⟨⟨by decide, fun t ht => absurd ht (Nat.not_lt_zero t)⟩, ⟨by decide, by decide, by decide⟩, ⟨by decide, by decide⟩, fun t ht => ⟨Nat.zero_le _, Nat.zero_le _, fun _ => ⟨rfl, rfl⟩⟩, by decide, by decide, by decide⟩
  · exact ⟨⟨rfl, rfl, rfl, rfl, rfl⟩, fun t ht => ⟨rfl, rfl⟩, ⟨rfl, rfl, rfl, rfl⟩, fun t ht => absurd ht (Nat.not_lt_zero t)⟩
  · exact ⟨⟨rfl, rfl, rfl, rfl, rfl, rfl, rfl⟩, fun t ht => absurd ht (Nat.not_lt_zero t)⟩
  · exact ⟨by decide, by decide, rfl, rfl, rfl, fun i hi => absurd hi (Nat.not_lt_zero i)⟩
  · exact ⟨by decide, rfl, rfl, fun k hk => absurd hk (Nat.not_lt_zero k), fun k hk => absurd hk (Nat.not_lt_zero k), fun k hk => absurd hk (Nat.not_lt_zero k)⟩
  · exact ⟨by decide, rfl, rfl, fun k hk => absurd hk (Nat.not_lt_zero k), fun k hk => absurd hk (Nat.not_lt_zero k), fun k hk => absurd hk (Nat.not_lt_zero k)⟩
theorem pc_arr {s : State} {A : Array Value} {ty : FieldType} (h : (Cond.arrayClass ty).before A s = true) : ∃ cA : ClassId, ArrOfT s cA ty ∧ s.vm.findClass ("[" ++ ty.toString) = some cA := by
  obtain ⟨cA, kA, comp, h1, h2, h3⟩ := Cond.arrayClass_spec h
  exact ⟨cA, fun n z => ⟨(fun k h => by cases h), kA, h2, comp, h3⟩, h1⟩
theorem pc_arrO {s : State} {C : String} (h : va_AO C s) : ∃ cA : ClassId, ArrOfT s cA (.object C) ∧ va_RA s cA (.object C) := by
  obtain ⟨comp, c, k, h1, h2, h3, h4, h5⟩ := Cond.arrayOver_spec h
  exact ⟨c, fun n z => ⟨(fun k h => by cases h), k, h3, comp, h4⟩, k, comp, h3, h4, h1, h5⟩
set_option maxRecDepth 100000 in
theorem pc_nest {s : State} {b : Nat} (hts : ∀ w ∈ lw_tbl, w.before #[Value.ref b] s = true) : mt_N s := by
  refine ⟨?_, ?_, ?_⟩
  · exact List.forall_mem_cons.mpr ⟨va_Nw.of rfl (hts (.fieldLinkNest RX4 70 RX0 "things" "I" RX11) (List.mem_append_right _ (List.mem_of_getElem? (i := 90) (by decide +kernel)))), List.forall_mem_cons.mpr ⟨va_Nw.of rfl (hts (.fieldLinkNest RX8 82 RX0 "things" "I" RX11) (List.mem_append_right _ (List.mem_of_getElem? (i := 91) (by decide +kernel)))), List.forall_mem_cons.mpr ⟨va_Nw.of rfl (hts (.fieldLinkNest RX11 308 RX0 "things" "I" RX11) (List.mem_append_right _ (List.mem_of_getElem? (i := 92) (by decide +kernel)))), List.forall_mem_cons.mpr ⟨va_Nw.of rfl (hts (.fieldLinkNest RX11 165 RX0 "pence" "I" RX11) (List.mem_append_right _ (List.mem_of_getElem? (i := 94) (by decide +kernel)))), List.forall_mem_cons.mpr ⟨va_Nw.of rfl (hts (.fieldLinkNest RX8 135 RX0 "pence" "I" RX11) (List.mem_append_right _ (List.mem_of_getElem? (i := 95) (by decide +kernel)))), List.forall_mem_cons.mpr ⟨va_Nw.of rfl (hts (.fieldLinkNest RX8 75 RX0 "lacked" "I" RX11) (List.mem_append_right _ (List.mem_of_getElem? (i := 97) (by decide +kernel)))), List.forall_mem_cons.mpr ⟨va_Nw.of rfl (hts (.fieldLinkNest RX11 345 RX0 "lacked" "I" RX11) (List.mem_append_right _ (List.mem_of_getElem? (i := 98) (by decide +kernel)))), List.forall_mem_cons.mpr ⟨va_Nw.of rfl (hts (.fieldLinkNest RX8 79 RX0 "spoilt" "I" RX11) (List.mem_append_right _ (List.mem_of_getElem? (i := 100) (by decide +kernel)))), List.forall_mem_cons.mpr ⟨va_Nw.of rfl (hts (.fieldLinkNest RX11 348 RX0 "spoilt" "I" RX11) (List.mem_append_right _ (List.mem_of_getElem? (i := 101) (by decide +kernel)))), List.forall_mem_cons.mpr ⟨va_Nw.of rfl (hts (.fieldLinkNest RX8 34 RX4 "cupboard" "LMilkTwice$Cupboard;" RX11) (List.mem_append_right _ (List.mem_of_getElem? (i := 128) (by decide +kernel)))), List.forall_mem_cons.mpr ⟨va_Nw.of rfl (hts (.fieldLinkNest RX11 91 RX4 "cupboard" "LMilkTwice$Cupboard;" RX11) (List.mem_append_right _ (List.mem_of_getElem? (i := 129) (by decide +kernel)))), List.forall_mem_cons.mpr ⟨va_Nw.of rfl (hts (.fieldLinkNest RX7 50 RX4 "cupboard" "LMilkTwice$Cupboard;" RX11) (List.mem_append_right _ (List.mem_of_getElem? (i := 130) (by decide +kernel)))), List.forall_mem_cons.mpr ⟨va_Nw.of rfl (hts (.fieldLinkNest RX11 161 RX4 "now" "I" RX11) (List.mem_append_right _ (List.mem_of_getElem? (i := 134) (by decide +kernel)))), List.forall_mem_cons.mpr ⟨va_Nw.of rfl (hts (.fieldLinkNest RX7 78 RX4 "days" "I" RX11) (List.mem_append_right _ (List.mem_of_getElem? (i := 136) (by decide +kernel)))), List.forall_mem_cons.mpr ⟨va_Nw.of rfl (hts (.fieldLinkNest RX11 181 RX4 "days" "I" RX11) (List.mem_append_right _ (List.mem_of_getElem? (i := 137) (by decide +kernel)))), List.forall_mem_cons.mpr ⟨va_Nw.of rfl (hts (.fieldLinkNest RX8 125 RX4 "days" "I" RX11) (List.mem_append_right _ (List.mem_of_getElem? (i := 138) (by decide +kernel)))), List.forall_mem_cons.mpr ⟨va_Nw.of rfl (hts (.fieldLinkNest RX7 68 RX4 "rule" "I" RX11) (List.mem_append_right _ (List.mem_of_getElem? (i := 140) (by decide +kernel)))), List.forall_mem_cons.mpr ⟨va_Nw.of rfl (hts (.fieldLinkNest RX11 174 RX4 "rule" "I" RX11) (List.mem_append_right _ (List.mem_of_getElem? (i := 141) (by decide +kernel)))), List.forall_mem_cons.mpr ⟨va_Nw.of rfl (hts (.fieldLinkNest RX11 187 RX3 "held" "I" RX11) (List.mem_append_right _ (List.mem_of_getElem? (i := 167) (by decide +kernel)))), List.forall_mem_cons.mpr ⟨va_Nw.of rfl (hts (.fieldLinkNest RX11 354 RX7 "length" "I" RX11) (List.mem_append_right _ (List.mem_of_getElem? (i := 207) (by decide +kernel)))), fun _ h => absurd h List.not_mem_nil⟩⟩⟩⟩⟩⟩⟩⟩⟩⟩⟩⟩⟩⟩⟩⟩⟩⟩⟩⟩
  · exact List.forall_mem_cons.mpr ⟨va_Nw.of rfl (hts (.methodLinkNest RX11 18 yX6_init RX11) (List.mem_append_right _ (List.mem_of_getElem? (i := 28) (by decide +kernel)))), List.forall_mem_cons.mpr ⟨va_Nw.of rfl (hts (.methodLinkNest RX11 21 yX9_init RX11) (List.mem_append_right _ (List.mem_of_getElem? (i := 36) (by decide +kernel)))), List.forall_mem_cons.mpr ⟨va_Nw.of rfl (hts (.methodLinkNest RX9 1 yX6_init RX11) (List.mem_append_right _ (List.mem_of_getElem? (i := 39) (by decide +kernel)))), List.forall_mem_cons.mpr ⟨va_Nw.of rfl (hts (.methodLinkNest RX11 24 yX5_init RX11) (List.mem_append_right _ (List.mem_of_getElem? (i := 43) (by decide +kernel)))), List.forall_mem_cons.mpr ⟨va_Nw.of rfl (hts (.methodLinkNest RX5 1 yX6_init RX11) (List.mem_append_right _ (List.mem_of_getElem? (i := 46) (by decide +kernel)))), List.forall_mem_cons.mpr ⟨va_Nw.of rfl (hts (.methodLinkNest RX11 27 yX1_init RX11) (List.mem_append_right _ (List.mem_of_getElem? (i := 50) (by decide +kernel)))), List.forall_mem_cons.mpr ⟨va_Nw.of rfl (hts (.methodLinkNest RX1 1 yX5_init RX11) (List.mem_append_right _ (List.mem_of_getElem? (i := 53) (by decide +kernel)))), List.forall_mem_cons.mpr ⟨va_Nw.of rfl (hts (.methodLinkNest RX11 30 yX2_init RX11) (List.mem_append_right _ (List.mem_of_getElem? (i := 57) (by decide +kernel)))), List.forall_mem_cons.mpr ⟨va_Nw.of rfl (hts (.methodLinkNest RX2 1 yX9_init RX11) (List.mem_append_right _ (List.mem_of_getElem? (i := 60) (by decide +kernel)))), List.forall_mem_cons.mpr ⟨va_Nw.of rfl (hts (.methodLinkNest RX11 33 yX10_init RX11) (List.mem_append_right _ (List.mem_of_getElem? (i := 64) (by decide +kernel)))), List.forall_mem_cons.mpr ⟨va_Nw.of rfl (hts (.methodLinkNest RX10 1 yX5_init RX11) (List.mem_append_right _ (List.mem_of_getElem? (i := 67) (by decide +kernel)))), List.forall_mem_cons.mpr ⟨va_Nw.of rfl (hts (.methodLinkNest RX11 67 yX7_init RX11) (List.mem_append_right _ (List.mem_of_getElem? (i := 201) (by decide +kernel)))), List.forall_mem_cons.mpr ⟨va_Nw.of rfl (hts (.methodLinkNest RX0 56 yX11_isOneOf RX11) (List.mem_append_right _ (List.mem_of_getElem? (i := 318) (by decide +kernel)))), List.forall_mem_cons.mpr ⟨va_Nw.of rfl (hts (.methodLinkNest RX0 60 yX11_eitherOutside RX11) (List.mem_append_right _ (List.mem_of_getElem? (i := 321) (by decide +kernel)))), List.forall_mem_cons.mpr ⟨va_Nw.of rfl (hts (.methodLinkNest RX7 71 yX11_isOneOf RX11) (List.mem_append_right _ (List.mem_of_getElem? (i := 384) (by decide +kernel)))), List.forall_mem_cons.mpr ⟨va_Nw.of rfl (hts (.methodLinkNest RX4 47 yX11_isOneOf RX11) (List.mem_append_right _ (List.mem_of_getElem? (i := 449) (by decide +kernel)))), fun _ h => absurd h List.not_mem_nil⟩⟩⟩⟩⟩⟩⟩⟩⟩⟩⟩⟩⟩⟩⟩⟩
  · exact List.forall_mem_cons.mpr ⟨va_Nw.of rfl (hts (.methodLink RX1 7 ⟨RX5, "priceAt", "(I)I"⟩) (List.mem_append_right _ (List.mem_of_getElem? (i := 337) (by decide +kernel)))), List.forall_mem_cons.mpr ⟨va_Nw.of rfl (hts (.methodLink RX10 7 ⟨RX5, "priceAt", "(I)I"⟩) (List.mem_append_right _ (List.mem_of_getElem? (i := 352) (by decide +kernel)))), List.forall_mem_cons.mpr ⟨va_Nw.of rfl (hts (.sameMethod RX5 RX6 "priceAt" "(I)I") (List.mem_append_right _ (List.mem_of_getElem? (i := 338) (by decide +kernel)))), List.forall_mem_cons.mpr ⟨va_Nw.of rfl (hts (.superclass RX1 RX5) (List.mem_append_right _ (List.mem_of_getElem? (i := 54) (by decide +kernel)))), List.forall_mem_cons.mpr ⟨va_Nw.of rfl (hts (.superclass RX10 RX5) (List.mem_append_right _ (List.mem_of_getElem? (i := 68) (by decide +kernel)))), List.forall_mem_cons.mpr ⟨va_Nw.of rfl (hts (.superclass RX5 RX6) (List.mem_append_right _ (List.mem_of_getElem? (i := 47) (by decide +kernel)))), List.forall_mem_cons.mpr ⟨va_Nw.of rfl (hts (.instanceMethod yX6_priceAt) (List.mem_append_right _ (List.mem_of_getElem? (i := 331) (by decide +kernel)))), List.forall_mem_cons.mpr ⟨va_Nw.of rfl (hts (.initialized RX6) (List.mem_append_right _ (List.mem_of_getElem? (i := 2) (by decide +kernel)))), List.forall_mem_cons.mpr ⟨va_Nw.of rfl (hts (.code yX6_priceAt cX6_priceAt 2 (some .int)) (List.mem_append_right _ (List.mem_of_getElem? (i := 353) (by decide +kernel)))), fun _ h => absurd h List.not_mem_nil⟩⟩⟩⟩⟩⟩⟩⟩⟩
set_option maxRecDepth 100000 in
theorem pc_start {s : State} {b : Nat} (hts : ∀ w ∈ lw_tbl, w.before #[Value.ref b] s = true) : ∃ (G : va_G) (t : ClassId × ClassId × ClassId × ClassId), ∀ (ad : Nat → Nat) (z : Nat), pc_G (G, ad, t, z) s := by
  obtain ⟨c0, i0, k0⟩ := u_known (C := RX0) (T := TX0) (N := 12) (n := 12) hts inX0 (hts (.instantiable RX0 12) (List.mem_append_right _ (List.mem_of_getElem? (i := 76) (by decide +kernel))))
  obtain ⟨c1, i1, k1⟩ := u_known (C := RX1) (T := TX1) (N := 0) (n := 0) hts inX1 (hts (.instantiable RX1 0) (List.mem_append_right _ (List.mem_of_getElem? (i := 49) (by decide +kernel))))
  obtain ⟨c2, i2, k2⟩ := u_known (C := RX2) (T := TX2) (N := 0) (n := 0) hts inX2 (hts (.instantiable RX2 0) (List.mem_append_right _ (List.mem_of_getElem? (i := 56) (by decide +kernel))))
  obtain ⟨c3, i3, k3⟩ := u_known (C := RX3) (T := TX3) (N := 3) (n := 3) hts inX3 (hts (.instantiable RX3 3) (List.mem_append_right _ (List.mem_of_getElem? (i := 156) (by decide +kernel))))
  obtain ⟨c4, i4, k4⟩ := u_known (C := RX4) (T := TX4) (N := 6) (n := 6) hts inX4 (hts (.instantiable RX4 6) (List.mem_append_right _ (List.mem_of_getElem? (i := 70) (by decide +kernel))))
  obtain ⟨c5, i5, k5⟩ := u_known (C := RX5) (T := TX5) (N := 0) (n := 0) hts inX5 (hts (.instantiable RX5 0) (List.mem_append_right _ (List.mem_of_getElem? (i := 42) (by decide +kernel))))
  obtain ⟨c6, i6, k6⟩ := u_known (C := RX6) (T := TX6) (N := 0) (n := 0) hts inX6 (hts (.instantiable RX6 0) (List.mem_append_right _ (List.mem_of_getElem? (i := 27) (by decide +kernel))))
  obtain ⟨c7, i7, k7⟩ := u_known (C := RX7) (T := TX7) (N := 2) (n := 2) hts inX7 (hts (.instantiable RX7 2) (List.mem_append_right _ (List.mem_of_getElem? (i := 200) (by decide +kernel))))
  obtain ⟨c8, i8, k8⟩ := u_known (C := RX8) (T := TX8) (N := 5) (n := 5) hts inX8 (hts (.instantiable RX8 5) (List.mem_append_right _ (List.mem_of_getElem? (i := 176) (by decide +kernel))))
  obtain ⟨c9, i9, k9⟩ := u_known (C := RX9) (T := TX9) (N := 0) (n := 0) hts inX9 (hts (.instantiable RX9 0) (List.mem_append_right _ (List.mem_of_getElem? (i := 35) (by decide +kernel))))
  obtain ⟨c10, i10, k10⟩ := u_known (C := RX10) (T := TX10) (N := 0) (n := 0) hts inX10 (hts (.instantiable RX10 0) (List.mem_append_right _ (List.mem_of_getElem? (i := 63) (by decide +kernel))))
  obtain ⟨c11, i11, k11⟩ := u_known (C := RX11) (T := TX11) (N := 10) (n := 10) hts inX11 (hts (.instantiable RX11 10) (List.mem_append_right _ (List.mem_of_getElem? (i := 18) (by decide +kernel))))
  obtain ⟨c12, i12, k12⟩ := u_known (C := RX12) (T := TX12) (N := 29) (n := 29) hts inX12 (hts (.instantiable RX12 29) (List.mem_append_right _ (List.mem_of_getElem? (i := 1007) (by decide +kernel))))
  obtain ⟨tI, a1, n1⟩ := pc_arr (hts (.arrayClass .int) (List.mem_append_right _ (List.mem_of_getElem? (i := 33) (by decide +kernel))))
  obtain ⟨tJ, a2, n2⟩ := pc_arr (hts (.arrayClass .long) (List.mem_append_right _ (List.mem_of_getElem? (i := 1100) (by decide +kernel))))
  have o4 : va_AO RX4 s := va_AO.of (hts (.arrayOver (.object RX4)) (List.mem_append_right _ (List.mem_of_getElem? (i := 162) (by decide +kernel))))
  have o6 : va_AO RX6 s := va_AO.of (hts (.arrayOver (.object RX6)) (List.mem_append_right _ (List.mem_of_getElem? (i := 26) (by decide +kernel))))
  obtain ⟨tH, a3, n3⟩ := pc_arrO o4
  obtain ⟨tK, a4, n4⟩ := pc_arrO o6
  have hK : ∃ G : va_G, ∀ (c : Nat) (q : vw_C), vwCl[c]? = some q → u_Kn s q.1 q.2.1 q.2.2 (G.1 c) (G.2 c) := by
    refine ⟨(fun k => [c0, c1, c2, c3, c4, c5, c6, c7, c8, c9, c10, c11, c12].getD k c0, fun k => [i0, i1, i2, i3, i4, i5, i6, i7, i8, i9, i10, i11, i12].getD k i0), fun c q hq => ?_⟩
    match c, hq with
    | 0, hq => cases hq; exact k0
    | 1, hq => cases hq; exact k1
    | 2, hq => cases hq; exact k2
    | 3, hq => cases hq; exact k3
    | 4, hq => cases hq; exact k4
    | 5, hq => cases hq; exact k5
    | 6, hq => cases hq; exact k6
    | 7, hq => cases hq; exact k7
    | 8, hq => cases hq; exact k8
    | 9, hq => cases hq; exact k9
    | 10, hq => cases hq; exact k10
    | 11, hq => cases hq; exact k11
    | 12, hq => cases hq; exact k12
    | k + 13, hq => simp [vwCl] at hq
  obtain ⟨G, hK⟩ := hK
  refine ⟨G, (tI, tJ, tH, tK), fun ad z => ⟨⟨⟨hK, fun k q hq => ?_⟩, pc_nest hts⟩, o6, o4, ?_⟩⟩
  · match k, hq with
    | 0, hq => cases hq; exact ⟨a1, n1⟩
    | 1, hq => cases hq; exact ⟨a2, n2⟩
    | 2, hq => cases hq; exact ⟨a3, n3⟩
    | 3, hq => cases hq; exact ⟨a4, n4⟩
    | k + 4, hq => simp [mt_tys] at hq
  · exact List.forall_mem_cons.mpr ⟨va_Nw.of rfl (hts (.castable RX1 RX6) (List.mem_append_right _ (List.mem_of_getElem? (i := 1564) (by decide +kernel)))), List.forall_mem_cons.mpr ⟨va_Nw.of rfl (hts (.castable RX2 RX6) (List.mem_append_right _ (List.mem_of_getElem? (i := 1565) (by decide +kernel)))), List.forall_mem_cons.mpr ⟨va_Nw.of rfl (hts (.castable RX5 RX6) (List.mem_append_right _ (List.mem_of_getElem? (i := 1563) (by decide +kernel)))), List.forall_mem_cons.mpr ⟨va_Nw.of rfl (hts (.castable RX9 RX6) (List.mem_append_right _ (List.mem_of_getElem? (i := 1562) (by decide +kernel)))), List.forall_mem_cons.mpr ⟨va_Nw.of rfl (hts (.castable RX10 RX6) (List.mem_append_right _ (List.mem_of_getElem? (i := 1566) (by decide +kernel)))), fun _ h => absurd h List.not_mem_nil⟩⟩⟩⟩⟩

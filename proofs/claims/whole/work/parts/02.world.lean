/-! THE WORLD: all objects of the class and of the reference have fixed places (ids 0 .. 163), at addresses ad id; what they hold of ints is one memory m : id -> place -> Int32 (fields of an object by their number, elements of an array by their index); the one long array is u -/
abbrev mt_E : Type := va_G × (Nat → Nat) × (ClassId × ClassId × ClassId × ClassId) × Nat
abbrev mt_M : Type := Nat → Nat → Int32
abbrev mt_U : Type := Nat → Int64
def mt_mu (m : mt_M) (a : Nat) (f : Nat → Int32) : mt_M := fun b => if b = a then f else m b
def mt_wr (m : mt_M) (a k : Nat) (x : Int32) : mt_M := mt_mu m a (upd (m a) k x)
/-- what lies at an id: kind 0 an int array of n, 1 an object of class n (its fields: some id, or none for an int), 2 a long array of n, 3 an array of Houses of n, 4 of Kinds -/
abbrev mt_S : Type := Nat × Nat × List (Option Nat)
def mt_cupS (c : Nat) : List mt_S := [(1, 0, [some 3, some (c + 1), some (c + 2), some (c + 3), some (c + 4), some (c + 5), some (c + 6), some (c + 7), none, none, none, none]), (0, 7, []), (0, 7, []), (0, 7, []), (0, 7, []), (0, 7, []), (0, 7, []), (0, 7, [])]
def mt_houS (h : Nat) : List mt_S := [(1, 4, [some (h + 3), some (h + 1), some (h + 2), none, none, none]), (0, 2, []), (0, 14, [])] ++ mt_cupS (h + 3)
def mt_L : List mt_S :=
  [(1, 11, [some 10, some 21, some 32, none, some 43, some 133, some 145, some 1, none, some 2]), (0, 12, []), (0, 7, []),
   (4, 6, []), (1, 6, []), (1, 9, []), (1, 5, []), (1, 1, []), (1, 2, []), (1, 10, [])] ++
  (mt_houS 10 ++ (mt_houS 21 ++ (mt_houS 32 ++
  ([(1, 3, [some 44, none, none]), (3, 8, [])] ++
  (mt_houS 45 ++ (mt_houS 56 ++ (mt_houS 67 ++ (mt_houS 78 ++ (mt_houS 89 ++ (mt_houS 100 ++ (mt_houS 111 ++ (mt_houS 122 ++
  ([(1, 8, [some 10, some 137, some 134, some 135, some 136]), (0, 7, []), (0, 7, []), (0, 7, [])] ++
  (mt_cupS 137 ++
  ([(1, 7, [some 146, none]), (0, 96, []),
   (1, 12, [some 148, some 149, some 150, some 151, some 152, some 153, some 154, some 155, none, none, none, none, some 156, some 157, some 158, some 159, none, none, none, some 160, none, none, none, none, none, some 161, some 162, none, some 163]),
   (0, 7, []), (0, 7, []), (0, 7, []), (0, 7, []), (0, 7, []), (0, 14, []), (0, 14, []), (0, 3, []), (0, 96, []), (0, 48, []), (0, 48, []), (0, 144, []), (0, 780, []), (2, 14, []), (0, 12, []), (0, 7, [])])))))))))))))))
def mt_T (i : Nat) : mt_S := mt_L.getD i (9, 0, [])
theorem mt_L_len : mt_L.length = 164 := by decide +kernel
theorem mt_T_lt {i k n : Nat} {fs : List (Option Nat)} (h : mt_T i = (k, n, fs)) (hk : k < 9) : i < 164 := by
  rcases Nat.lt_or_ge i 164 with q | q
  · exact q
  · have h2 : mt_L[i]? = none := List.getElem?_eq_none (by rw [mt_L_len]; exact q)
    unfold mt_T at h
    rw [List.getD_eq_getElem?_getD, h2] at h
    cases h
    exact absurd hk (by omega)
def mt_fs (ad : Nat → Nat) (f : Nat → Int32) : List (Option Nat) → Nat → List Value
  | [], _ => []
  | some j :: l, k => .ref (ad j) :: mt_fs ad f l (k + 1)
  | none :: l, k => .int (f k) :: mt_fs ad f l (k + 1)
/-- the Houses' array holds the kept ones, the Kinds' array the six kinds -/
def mt_row (E : mt_E) (f : Nat → Int32) (u : mt_U) (t : mt_S) : va_E :=
  if t.1 = 0 then .inl (E.2.2.1.1, t.2.1, .inl f)
  else if t.1 = 1 then .inr (t.2.1, mt_fs E.2.1 f t.2.2 0)
  else if t.1 = 2 then .inl (E.2.2.1.2.1, t.2.1, .inr (.inl u))
  else if t.1 = 3 then .inl (E.2.2.1.2.2.1, t.2.1, .inr (.inr (.inr (.inr (fun j => if j < 8 then some (E.2.1 (45 + 11 * j)) else none)))))
  else .inl (E.2.2.1.2.2.2, t.2.1, .inr (.inr (.inr (.inr (fun j => if j < 6 then some (E.2.1 (4 + j)) else none)))))
def mt_ws (E : mt_E) (m : mt_M) (u : mt_U) : va_W := (List.range 164).map (fun i => (E.2.1 i, mt_row E (m i) u (mt_T i)))
theorem mt_ws_get (E : mt_E) (m : mt_M) (u : mt_U) {i : Nat} (h : i < 164) : (mt_ws E m u)[i]? = some (E.2.1 i, mt_row E (m i) u (mt_T i)) := by
  simp [mt_ws, h]
theorem mt_ws_set (E : mt_E) (m : mt_M) (u : mt_U) {i : Nat} (f : Nat → Int32) : (mt_ws E m u).set i (E.2.1 i, mt_row E f u (mt_T i)) = mt_ws E (mt_mu m i f) u := by
  apply List.ext_getElem?
  intro j
  by_cases hj : j < 164
  · rw [mt_ws_get E _ u hj]
    by_cases hij : i = j
    · subst hij
      rw [List.getElem?_set_self (by simp [mt_ws, hj])]
      simp [mt_mu]
    · rw [List.getElem?_set_ne hij, mt_ws_get E m u hj]
      simp only [mt_mu, if_neg (show ¬ j = i from fun h => hij h.symm)]
  · rw [List.getElem?_eq_none (by simp [mt_ws]; omega), List.getElem?_eq_none (by simp [mt_ws]; omega)]
theorem mt_ws_setU (E : mt_E) (m : mt_M) (u v : mt_U) : (mt_ws E m u).set 161 (E.2.1 161, mt_row E (m 161) v (mt_T 161)) = mt_ws E m v := by
  apply List.ext_getElem?
  intro j
  by_cases hj : j < 164
  · rw [mt_ws_get E _ v hj]
    by_cases hij : 161 = j
    · subst hij
      rw [List.getElem?_set_self (by simp [mt_ws])]
    · rw [List.getElem?_set_ne hij, mt_ws_get E m u hj]
      have h2 : (mt_T j).1 ≠ 2 := by
        have key : ((List.range 164).all fun j => decide (j = 161 ∨ (mt_T j).1 ≠ 2)) = true := by decide +kernel
        have := List.all_eq_true.mp key j (List.mem_range.mpr hj)
        rcases of_decide_eq_true this with h | h
        · exact absurd h.symm hij
        · exact h
      simp only [mt_row, if_neg h2]
  · rw [List.getElem?_eq_none (by simp [mt_ws]; omega), List.getElem?_eq_none (by simp [mt_ws]; omega)]
theorem mt_fs_get (ad : Nat → Nat) (f : Nat → Int32) : ∀ (l : List (Option Nat)) (k0 k : Nat), (mt_fs ad f l k0)[k]? = (l[k]?).map (fun o => match o with | some j => Value.ref (ad j) | none => Value.int (f (k0 + k)))
  | [], _, _ => by simp [mt_fs]
  | some j :: l, k0, 0 => by simp [mt_fs]
  | none :: l, k0, 0 => by simp [mt_fs]
  | some j :: l, k0, k + 1 => by
    simp only [mt_fs, List.getElem?_cons_succ]
    rw [mt_fs_get ad f l (k0 + 1) k, show k0 + 1 + k = k0 + (k + 1) by omega]
  | none :: l, k0, k + 1 => by
    simp only [mt_fs, List.getElem?_cons_succ]
    rw [mt_fs_get ad f l (k0 + 1) k, show k0 + 1 + k = k0 + (k + 1) by omega]
theorem mt_fs_len (ad : Nat → Nat) (f : Nat → Int32) : ∀ (l : List (Option Nat)) (k0 : Nat), (mt_fs ad f l k0).length = l.length
  | [], _ => rfl
  | some j :: l, k0 => by simp only [mt_fs, List.length_cons, mt_fs_len ad f l (k0 + 1)]
  | none :: l, k0 => by simp only [mt_fs, List.length_cons, mt_fs_len ad f l (k0 + 1)]
theorem mt_fs_set (ad : Nat → Nat) (f : Nat → Int32) (l : List (Option Nat)) (k : Nat) (x : Int32) (h : l[k]? = some none) : (mt_fs ad f l 0).set k (.int x) = mt_fs ad (upd f k x) l 0 := by
  apply List.ext_getElem?
  intro j
  have hk : k < l.length := (List.getElem?_eq_some_iff.mp h).1
  by_cases hj : k = j
  · subst hj
    rw [List.getElem?_set_self (by rw [mt_fs_len]; exact hk), mt_fs_get, h]
    simp [upd]
  · rw [List.getElem?_set_ne hj, mt_fs_get, mt_fs_get]
    cases hl : l[j]? with
    | none => rfl
    | some o => cases o with
      | none => simp [upd, show ¬ j = k from fun h => hj h.symm]
      | some z => rfl
def mt_tys (E : mt_E) : List (ClassId × FieldType) := [(E.2.2.1.1, .int), (E.2.2.1.2.1, .long), (E.2.2.1.2.2.1, .object RX4), (E.2.2.1.2.2.2, .object RX6)]
def mt_A (E : mt_E) : Nat → Prop := fun q => E.2.2.2 ≤ q
def mt_H (E : mt_E) (m : mt_M) (u : mt_U) (H : Heap) : Prop := va_P E.1 vwCl (mt_ws E m u) H ∧ va_D (mt_A E) (mt_ws E m u)
/-- the private members that nest mates name: words that hold at every state of the run -/
def mt_nF : List (String × Nat × String × String × String) :=
  [(RX4, 70, RX0, "things", "I"), (RX8, 82, RX0, "things", "I"), (RX11, 308, RX0, "things", "I"), (RX11, 165, RX0, "pence", "I"), (RX8, 135, RX0, "pence", "I"), (RX8, 75, RX0, "lacked", "I"), (RX11, 345, RX0, "lacked", "I"), (RX8, 79, RX0, "spoilt", "I"), (RX11, 348, RX0, "spoilt", "I"),
   (RX8, 34, RX4, "cupboard", "LMilkTwice$Cupboard;"), (RX11, 91, RX4, "cupboard", "LMilkTwice$Cupboard;"), (RX7, 50, RX4, "cupboard", "LMilkTwice$Cupboard;"), (RX11, 161, RX4, "now", "I"), (RX7, 78, RX4, "days", "I"), (RX11, 181, RX4, "days", "I"), (RX8, 125, RX4, "days", "I"), (RX7, 68, RX4, "rule", "I"), (RX11, 174, RX4, "rule", "I"), (RX11, 187, RX3, "held", "I"), (RX11, 354, RX7, "length", "I")]
def mt_nM : List (String × Nat × MethodName) :=
  [(RX11, 18, yX6_init), (RX11, 21, yX9_init), (RX9, 1, yX6_init), (RX11, 24, yX5_init), (RX5, 1, yX6_init), (RX11, 27, yX1_init), (RX1, 1, yX5_init), (RX11, 30, yX2_init), (RX2, 1, yX9_init), (RX11, 33, yX10_init), (RX10, 1, yX5_init), (RX11, 67, yX7_init), (RX0, 56, yX11_isOneOf), (RX0, 60, yX11_eitherOutside), (RX7, 71, yX11_isOneOf), (RX4, 47, yX11_isOneOf)]
/-- words of a call that the printed lists leave out (super.priceAt, that the class above inherits) -/
def mt_nX : List Cond := [.methodLink RX1 7 ⟨RX5, "priceAt", "(I)I"⟩, .methodLink RX10 7 ⟨RX5, "priceAt", "(I)I"⟩, .sameMethod RX5 RX6 "priceAt" "(I)I", .superclass RX1 RX5, .superclass RX10 RX5, .superclass RX5 RX6, .instanceMethod yX6_priceAt, .initialized RX6, .code yX6_priceAt cX6_priceAt 2 (some .int)]
theorem mt_nX_good : ∀ w ∈ mt_nX, (w.onTables && w.keeps) = true := by decide +kernel
def mt_N (U : State) : Prop := (∀ q ∈ mt_nF, va_Nw (.fieldLinkNest q.1 q.2.1 q.2.2.1 q.2.2.2.1 q.2.2.2.2 RX11) U) ∧ (∀ q ∈ mt_nM, va_Nw (.methodLinkNest q.1 q.2.1 q.2.2 RX11) U) ∧ ∀ w ∈ mt_nX, va_Nw w U
theorem mt_N.warm {s U : State} (hW : s.WarmedH U.vm) (h : mt_N s) : mt_N U := ⟨fun q hq => va_Nw.warmF hW (h.1 q hq), fun q hq => va_Nw.warmM hW (h.2.1 q hq), fun w hw => word_at hW (Or.inl (mt_nX_good w hw)) (h.2.2 w hw)⟩
theorem mt_N.same {u U : State} (hv : u.vm = U.vm) (h : mt_N u) : mt_N U := ⟨fun q hq => va_Nw.same rfl hv (h.1 q hq), fun q hq => va_Nw.same rfl hv (h.2.1 q hq), fun w hw => va_Nw.same ((Bool.and_eq_true _ _).mp (mt_nX_good w hw)).1 hv (h.2.2 w hw)⟩
def mt_I (E : mt_E) (U : State) : Prop := va_K E.1 vwCl (mt_tys E) U ∧ mt_N U
theorem mt_I.warm {E : mt_E} {s U : State} (hW : s.WarmedH U.vm) (h : mt_I E s) : mt_I E U := ⟨va_K.moved hW.alike h.1, h.2.warm hW⟩
theorem mt_I.same {E : mt_E} {u U : State} (hv : u.vm = U.vm) (h : mt_I E u) : mt_I E U := ⟨va_K.moved (by rw [← hv]; exact Vm.Alike.refl u.vm) h.1, h.2.same hv⟩
def mt_B (E : mt_E) (m : mt_M) (u : mt_U) (U : State) : Prop := mt_I E U ∧ mt_H E m u U.heap
abbrev mt_P (E : mt_E) (av : List Value) (m : mt_M) (u : mt_U) : Array Value → State → Prop := va_Pc av (mt_B E m u)
abbrev mt_Qi (E : mt_E) (r : Int32) (m : mt_M) (u : mt_U) : Array Value → State → Outcome → State → Prop := va_Qi (fun (r' : Int32) (_ : Unit) => r' = r) (fun _ t => mt_B E m u t) (mt_A E)
abbrev mt_Ql (E : mt_E) (r : Int64) (m : mt_M) (u : mt_U) : Array Value → State → Outcome → State → Prop := va_Ql (fun (r' : Int64) (_ : Unit) => r' = r) (fun _ t => mt_B E m u t) (mt_A E)
abbrev mt_Qv (E : mt_E) (m : mt_M) (u : mt_U) : Array Value → State → Outcome → State → Prop := va_Qv (fun (_ : Unit) => True) (fun _ t => mt_B E m u t) (mt_A E)
abbrev mt_Qr (E : mt_E) (a : Nat) (m : mt_M) (u : mt_U) : Array Value → State → Outcome → State → Prop := va_Qr (fun (_ : Unit) => True) (fun _ a' t => a' = a ∧ mt_B E m u t) (mt_A E)
theorem mt_blind (E : mt_E) (av : List Value) (m : mt_M) (u : mt_U) : FrameBlind (mt_P E av m u) := fun a U g mk q => ⟨q.1, q.2.1.same (u := U) (U := U.calling g mk a) rfl, q.2.2⟩
section MT
variable {p : Program} {l : Launch} {e : Env} {R : Room} {s : State} {m : MethodId} {args : Array Value} {below : List Frame} {meth : Method} {c : Code} {H : Heap} {locs : List Loc} {cells slots : Nat} {Q : State → Prop}
variable {cc : ByteArray} {pc : Nat} {ls : Array Slot} {rest : List Value} {E : mt_E} {M : mt_M} {u : mt_U}
theorem mt_geti (hx : p.tables.exec = Jvm.exec) (hb : c.code = cc) {own ref C : String} {T : u_T} {N ci index : Nat} {Ts : List Cond} (hts : ∀ w ∈ Ts, w.before args s = true) (hin : ∀ w ∈ u_ws C T N, w ∈ Ts) (hown : s.vm.findClass own = some m.cls) (hI : mt_I E s) (hH : mt_H E M u H) {i : Nat} {fs : List (Option Nat)} (hT : mt_T i = (1, ci, fs)) (hc : vwCl[ci]? = some (C, T, N)) (k : Nat) (hk : k < N) (hlink : (Cond.fieldLink own index ref (T k).2.1 (T k).2.2.1).before args s = true) (href : (T k).1 = ref) (hf : fs[k]? = some none) (hdg : decode cc pc = .ok (.getfield index, 3))
    (kk : W p l e R s m args below meth c H locs cells slots Q (F0 m (pc + 3) ls (.int (M i k) :: rest))) : W p l e R s m args below meth c H locs cells slots Q (F0 m pc ls (.ref (E.2.1 i) :: rest)) := by
  have hlt := mt_T_lt hT (by omega)
  have he := mt_ws_get E M u hlt
  rw [hT] at he
  refine va_get hx hb hts hin hown hI.1 hH.1 i he hc k hk hlink (fun x h9 => by rw [← href]; exact h9) (v := .int (M i k)) ?_ hdg kk
  rw [mt_fs_get, hf]
  simp
theorem mt_getr (hx : p.tables.exec = Jvm.exec) (hb : c.code = cc) {own ref C : String} {T : u_T} {N ci index : Nat} {Ts : List Cond} (hts : ∀ w ∈ Ts, w.before args s = true) (hin : ∀ w ∈ u_ws C T N, w ∈ Ts) (hown : s.vm.findClass own = some m.cls) (hI : mt_I E s) (hH : mt_H E M u H) {i j : Nat} {fs : List (Option Nat)} (hT : mt_T i = (1, ci, fs)) (hc : vwCl[ci]? = some (C, T, N)) (k : Nat) (hk : k < N) (hlink : (Cond.fieldLink own index ref (T k).2.1 (T k).2.2.1).before args s = true) (href : (T k).1 = ref) (hf : fs[k]? = some (some j)) (hdg : decode cc pc = .ok (.getfield index, 3))
    (kk : W p l e R s m args below meth c H locs cells slots Q (F0 m (pc + 3) ls (.ref (E.2.1 j) :: rest))) : W p l e R s m args below meth c H locs cells slots Q (F0 m pc ls (.ref (E.2.1 i) :: rest)) := by
  have hlt := mt_T_lt hT (by omega)
  have he := mt_ws_get E M u hlt
  rw [hT] at he
  refine va_get hx hb hts hin hown hI.1 hH.1 i he hc k hk hlink (fun x h9 => by rw [← href]; exact h9) (v := .ref (E.2.1 j)) ?_ hdg kk
  rw [mt_fs_get, hf]
  simp
theorem mt_getiN (hx : p.tables.exec = Jvm.exec) (hb : c.code = cc) {own ref C : String} {T : u_T} {N ci index : Nat} {Ts : List Cond} (hts : ∀ w ∈ Ts, w.before args s = true) (hin : ∀ w ∈ u_ws C T N, w ∈ Ts) (hown : s.vm.findClass own = some m.cls) (hI : mt_I E s) (hH : mt_H E M u H) {i : Nat} {fs : List (Option Nat)} (hT : mt_T i = (1, ci, fs)) (hc : vwCl[ci]? = some (C, T, N)) (k : Nat) (hk : k < N) (hlink : (own, index, ref, (T k).2.1, (T k).2.2.1) ∈ mt_nF) (href : (T k).1 = ref) (hf : fs[k]? = some none) (hdg : decode cc pc = .ok (.getfield index, 3))
    (kk : W p l e R s m args below meth c H locs cells slots Q (F0 m (pc + 3) ls (.int (M i k) :: rest))) : W p l e R s m args below meth c H locs cells slots Q (F0 m pc ls (.ref (E.2.1 i) :: rest)) := by
  have hlt := mt_T_lt hT (by omega)
  have he := mt_ws_get E M u hlt
  rw [hT] at he
  refine va_getN (host := RX11) hx hb hts hin hown hI.1 hH.1 i he hc k hk (va_Nw.use rfl (hI.2.1 _ hlink)) (fun x h9 => by rw [← href]; exact h9) (v := .int (M i k)) ?_ hdg kk
  rw [mt_fs_get, hf]
  simp
theorem mt_getrN (hx : p.tables.exec = Jvm.exec) (hb : c.code = cc) {own ref C : String} {T : u_T} {N ci index : Nat} {Ts : List Cond} (hts : ∀ w ∈ Ts, w.before args s = true) (hin : ∀ w ∈ u_ws C T N, w ∈ Ts) (hown : s.vm.findClass own = some m.cls) (hI : mt_I E s) (hH : mt_H E M u H) {i j : Nat} {fs : List (Option Nat)} (hT : mt_T i = (1, ci, fs)) (hc : vwCl[ci]? = some (C, T, N)) (k : Nat) (hk : k < N) (hlink : (own, index, ref, (T k).2.1, (T k).2.2.1) ∈ mt_nF) (href : (T k).1 = ref) (hf : fs[k]? = some (some j)) (hdg : decode cc pc = .ok (.getfield index, 3))
    (kk : W p l e R s m args below meth c H locs cells slots Q (F0 m (pc + 3) ls (.ref (E.2.1 j) :: rest))) : W p l e R s m args below meth c H locs cells slots Q (F0 m pc ls (.ref (E.2.1 i) :: rest)) := by
  have hlt := mt_T_lt hT (by omega)
  have he := mt_ws_get E M u hlt
  rw [hT] at he
  refine va_getN (host := RX11) hx hb hts hin hown hI.1 hH.1 i he hc k hk (va_Nw.use rfl (hI.2.1 _ hlink)) (fun x h9 => by rw [← href]; exact h9) (v := .ref (E.2.1 j)) ?_ hdg kk
  rw [mt_fs_get, hf]
  simp
theorem mt_setrow {i : Nat} {ci : Nat} {fs : List (Option Nat)} (hT : mt_T i = (1, ci, fs)) (k : Nat) (x : Int32) (hf : fs[k]? = some none) : (mt_ws E M u).set i (E.2.1 i, .inr (ci, (mt_fs E.2.1 (M i) fs 0).set k (.int x))) = mt_ws E (mt_wr M i k x) u := by
  rw [mt_fs_set _ _ _ _ _ hf]
  have h := mt_ws_set E M u (i := i) (upd (M i) k x)
  rw [hT] at h
  exact h
theorem mt_puti (hx : p.tables.exec = Jvm.exec) (hb : c.code = cc) {own ref C : String} {T : u_T} {N ci index : Nat} {Ts : List Cond} (hts : ∀ w ∈ Ts, w.before args s = true) (hin : ∀ w ∈ u_ws C T N, w ∈ Ts) (ty0 : Nat → FieldType) (hty : ∀ k, k < N → parseFieldDescriptor (T k).2.2.1 = some (ty0 k)) (hnm : ∀ a, a < N → ∀ b, b < N → a ≠ b → (T a).2.1 ≠ (T b).2.1) (hown : s.vm.findClass own = some m.cls) (hI : mt_I E s) (hH : mt_H E M u H) (hS : va_S (mt_A E) s.heap H locs) {i : Nat} {fs : List (Option Nat)} (hT : mt_T i = (1, ci, fs)) (hc : vwCl[ci]? = some (C, T, N)) (k : Nat) (hk : k < N) (hlink : (Cond.fieldLink own index ref (T k).2.1 (T k).2.2.1).before args s = true) (href : (T k).1 = ref) (hfin : (T k).2.2.2 = false) {ty : FieldType} {x : Int32} (hd : parseFieldDescriptor (T k).2.2.1 = some ty) (hn : narrow ty (.int x) = .int x) (hfit : fits ty (.int x) = true) (hf : fs[k]? = some none) (hdg : decode cc pc = .ok (.putfield index, 3))
    (kk : ∀ (H1 : Heap) (locs1 : List Loc), mt_H E (mt_wr M i k x) u H1 → va_S (mt_A E) s.heap H1 locs1 → W p l e R s m args below meth c H1 locs1 cells slots Q (F0 m (pc + 3) ls rest)) : W p l e R s m args below meth c H locs cells slots Q (F0 m pc ls (.int x :: .ref (E.2.1 i) :: rest)) := by
  have hlt := mt_T_lt hT (by omega)
  have he := mt_ws_get E M u hlt
  rw [hT] at he
  have hkl : k < fs.length := (List.getElem?_eq_some_iff.mp hf).1
  refine va_put hx hb hts hin ty0 hty hnm hown hI.1 hH.1 hH.2 hS i he hc k hk hlink (fun x h9 => by rw [← href]; exact h9) hfin hd hn hfit (by rw [mt_fs_len]; exact hkl) hdg fun H1 locs1 hP hD hS1 => ?_
  rw [mt_setrow hT k x hf] at hP hD
  exact kk H1 locs1 ⟨hP, hD⟩ hS1
theorem mt_putiN (hx : p.tables.exec = Jvm.exec) (hb : c.code = cc) {own ref C : String} {T : u_T} {N ci index : Nat} {Ts : List Cond} (hts : ∀ w ∈ Ts, w.before args s = true) (hin : ∀ w ∈ u_ws C T N, w ∈ Ts) (ty0 : Nat → FieldType) (hty : ∀ k, k < N → parseFieldDescriptor (T k).2.2.1 = some (ty0 k)) (hnm : ∀ a, a < N → ∀ b, b < N → a ≠ b → (T a).2.1 ≠ (T b).2.1) (hown : s.vm.findClass own = some m.cls) (hI : mt_I E s) (hH : mt_H E M u H) (hS : va_S (mt_A E) s.heap H locs) {i : Nat} {fs : List (Option Nat)} (hT : mt_T i = (1, ci, fs)) (hc : vwCl[ci]? = some (C, T, N)) (k : Nat) (hk : k < N) (hlink : (own, index, ref, (T k).2.1, (T k).2.2.1) ∈ mt_nF) (href : (T k).1 = ref) (hfin : (T k).2.2.2 = false) {ty : FieldType} {x : Int32} (hd : parseFieldDescriptor (T k).2.2.1 = some ty) (hn : narrow ty (.int x) = .int x) (hfit : fits ty (.int x) = true) (hf : fs[k]? = some none) (hdg : decode cc pc = .ok (.putfield index, 3))
    (kk : ∀ (H1 : Heap) (locs1 : List Loc), mt_H E (mt_wr M i k x) u H1 → va_S (mt_A E) s.heap H1 locs1 → W p l e R s m args below meth c H1 locs1 cells slots Q (F0 m (pc + 3) ls rest)) : W p l e R s m args below meth c H locs cells slots Q (F0 m pc ls (.int x :: .ref (E.2.1 i) :: rest)) := by
  have hlt := mt_T_lt hT (by omega)
  have he := mt_ws_get E M u hlt
  rw [hT] at he
  have hkl : k < fs.length := (List.getElem?_eq_some_iff.mp hf).1
  refine va_putN (host := RX11) hx hb hts hin ty0 hty hnm hown hI.1 hH.1 hH.2 hS i he hc k hk (va_Nw.use rfl (hI.2.1 _ hlink)) (fun x h9 => by rw [← href]; exact h9) hfin hd hn hfit (by rw [mt_fs_len]; exact hkl) hdg fun H1 locs1 hP hD hS1 => ?_
  rw [mt_setrow hT k x hf] at hP hD
  exact kk H1 locs1 ⟨hP, hD⟩ hS1
theorem mt_iald (hx : p.tables.exec = Jvm.exec) (hb : c.code = cc) (hI : mt_I E s) (hH : mt_H E M u H) {i n : Nat} (hT : mt_T i = (0, n, [])) {j : Int32} (hin : vp_in j n) (hdg : decode cc pc = .ok (.iaload, 1))
    (kk : W p l e R s m args below meth c H locs cells slots Q (F0 m (pc + 1) ls (.int (M i j.toNatClampNeg) :: rest))) : W p l e R s m args below meth c H locs cells slots Q (F0 m pc ls (.int j :: .ref (E.2.1 i) :: rest)) := by
  have he := mt_ws_get E M u (mt_T_lt hT (by omega))
  rw [hT] at he
  exact va_iald hx hb hI.1 hH.1 i 0 he rfl hin hdg kk
theorem mt_iast (hx : p.tables.exec = Jvm.exec) (hb : c.code = cc) (hI : mt_I E s) (hH : mt_H E M u H) (hS : va_S (mt_A E) s.heap H locs) {i n : Nat} (hT : mt_T i = (0, n, [])) {j x : Int32} (hin : vp_in j n) (hdg : decode cc pc = .ok (.iastore, 1))
    (kk : ∀ (H1 : Heap) (locs1 : List Loc), mt_H E (mt_wr M i j.toNatClampNeg x) u H1 → va_S (mt_A E) s.heap H1 locs1 → W p l e R s m args below meth c H1 locs1 cells slots Q (F0 m (pc + 1) ls rest)) : W p l e R s m args below meth c H locs cells slots Q (F0 m pc ls (.int x :: .int j :: .ref (E.2.1 i) :: rest)) := by
  have he := mt_ws_get E M u (mt_T_lt hT (by omega))
  have h9 := mt_ws_set E M u (i := i) (upd (M i) j.toNatClampNeg x)
  rw [hT] at he h9
  refine va_iast hx hb hI.1 hH.1 hH.2 hS i 0 he rfl hin hdg fun H1 locs1 hP hD hS1 => ?_
  exact kk H1 locs1 ⟨h9 ▸ hP, h9 ▸ hD⟩ hS1
theorem mt_alen (hx : p.tables.exec = Jvm.exec) (hb : c.code = cc) (hI : mt_I E s) (hH : mt_H E M u H) {i n : Nat} (hT : mt_T i = (0, n, [])) (hdg : decode cc pc = .ok (.arraylength, 1))
    (kk : W p l e R s m args below meth c H locs cells slots Q (F0 m (pc + 1) ls (.int (Int32.ofNat n) :: rest))) : W p l e R s m args below meth c H locs cells slots Q (F0 m pc ls (.ref (E.2.1 i) :: rest)) := by
  have he := mt_ws_get E M u (mt_T_lt hT (by omega))
  rw [hT] at he
  exact va_alen hx hb hI.1 hH.1 i 0 he (ty := .int) rfl rfl hdg kk
theorem mt_T161 : mt_T 161 = (2, 14, []) := by decide +kernel
theorem mt_lald (hx : p.tables.exec = Jvm.exec) (hb : c.code = cc) (hI : mt_I E s) (hH : mt_H E M u H) {j : Int32} (hin : vp_in j 14) (hdg : decode cc pc = .ok (.laload, 1))
    (kk : W p l e R s m args below meth c H locs cells slots Q (F0 m (pc + 1) ls (.long (u j.toNatClampNeg) :: rest))) : W p l e R s m args below meth c H locs cells slots Q (F0 m pc ls (.int j :: .ref (E.2.1 161) :: rest)) := by
  have he := mt_ws_get E M u (i := 161) (by omega)
  rw [mt_T161] at he
  exact va_lald hx hb hI.1 hH.1 161 1 he rfl hin hdg kk
theorem mt_last (hx : p.tables.exec = Jvm.exec) (hb : c.code = cc) (hI : mt_I E s) (hH : mt_H E M u H) (hS : va_S (mt_A E) s.heap H locs) {j : Int32} {x : Int64} (hin : vp_in j 14) (hdg : decode cc pc = .ok (.lastore, 1))
    (kk : ∀ (H1 : Heap) (locs1 : List Loc), mt_H E M (vp_updL u j.toNatClampNeg x) H1 → va_S (mt_A E) s.heap H1 locs1 → W p l e R s m args below meth c H1 locs1 cells slots Q (F0 m (pc + 1) ls rest)) : W p l e R s m args below meth c H locs cells slots Q (F0 m pc ls (.long x :: .int j :: .ref (E.2.1 161) :: rest)) := by
  have he := mt_ws_get E M u (i := 161) (by omega)
  have h9 := mt_ws_setU E M u (vp_updL u j.toNatClampNeg x)
  rw [mt_T161] at he h9
  refine va_last hx hb hI.1 hH.1 hH.2 hS 161 1 he rfl hin hdg fun H1 locs1 hP hD hS1 => ?_
  exact kk H1 locs1 ⟨h9 ▸ hP, h9 ▸ hD⟩ hS1
theorem mt_T44 : mt_T 44 = (3, 8, []) := by decide +kernel
theorem mt_T3 : mt_T 3 = (4, 6, []) := by decide +kernel
theorem mt_aldH (hx : p.tables.exec = Jvm.exec) (hb : c.code = cc) (hI : mt_I E s) (hH : mt_H E M u H) {j : Int32} (hin : vp_in j 8) (hdg : decode cc pc = .ok (.aaload, 1))
    (kk : W p l e R s m args below meth c H locs cells slots Q (F0 m (pc + 1) ls (.ref (E.2.1 (45 + 11 * j.toNatClampNeg)) :: rest))) : W p l e R s m args below meth c H locs cells slots Q (F0 m pc ls (.int j :: .ref (E.2.1 44) :: rest)) := by
  have he := mt_ws_get E M u (i := 44) (by omega)
  rw [mt_T44] at he
  have hlt : j.toNatClampNeg < 8 := Nat.not_le.mp fun q => hin (Or.inr q)
  refine va_aldq hx hb hI.1 hH.1 44 2 he rfl hin hdg ?_
  simp only [if_pos hlt]
  exact kk
theorem mt_aldK (hx : p.tables.exec = Jvm.exec) (hb : c.code = cc) (hI : mt_I E s) (hH : mt_H E M u H) {j : Int32} (hin : vp_in j 6) (hdg : decode cc pc = .ok (.aaload, 1))
    (kk : W p l e R s m args below meth c H locs cells slots Q (F0 m (pc + 1) ls (.ref (E.2.1 (4 + j.toNatClampNeg)) :: rest))) : W p l e R s m args below meth c H locs cells slots Q (F0 m pc ls (.int j :: .ref (E.2.1 3) :: rest)) := by
  have he := mt_ws_get E M u (i := 3) (by omega)
  rw [mt_T3] at he
  have hlt : j.toNatClampNeg < 6 := Nat.not_le.mp fun q => hin (Or.inr q)
  refine va_aldq hx hb hI.1 hH.1 3 3 he rfl hin hdg ?_
  simp only [if_pos hlt]
  exact kk
end MT

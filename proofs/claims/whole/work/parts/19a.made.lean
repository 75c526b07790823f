/-! THE CONSTRUCTORS: tools -/
def pc_G (E : mt_E) (U : State) : Prop := mt_I E U ∧ va_AO RX6 U ∧ va_AO RX4 U ∧ ∀ C ∈ [RX1, RX2, RX5, RX9, RX10], va_Nw (.castable C RX6) U
theorem pc_G.warm {E : mt_E} {s U : State} (hW : s.WarmedH U.vm) (h : pc_G E s) : pc_G E U := ⟨h.1.warm hW, va_AO.moved hW.alike h.2.1, va_AO.moved hW.alike h.2.2.1, fun C hC => va_Nw.warmC hW (h.2.2.2 C hC)⟩
theorem pc_G.same {E : mt_E} {u U : State} (hv : u.vm = U.vm) (h : pc_G E u) : pc_G E U := ⟨h.1.same hv, va_AO.moved (by rw [← hv]; exact Vm.Alike.refl u.vm) h.2.1, va_AO.moved (by rw [← hv]; exact Vm.Alike.refl u.vm) h.2.2.1, fun C hC => va_Nw.same rfl hv (h.2.2.2 C hC)⟩
abbrev pc_P (E : mt_E) (av : List Value) (w : va_W) (sz : Nat) : Array Value → State → Prop := va_Pc av (fun U => U.heap.size = sz ∧ pc_G E U ∧ va_P E.1 vwCl w U.heap ∧ va_D (fun _ => True) w)
abbrev pc_Q (E : mt_E) (w : va_W) (sz : Nat) (wo : (Nat → Nat) → va_W) : Array Value → State → Outcome → State → Prop := va_Qv (fun _ : Nat → Nat => True) (fun a t => va_P E.1 vwCl (wo a) t.heap ∧ va_D (va_A w sz) (wo a)) (va_A w sz)
theorem pc_blind (E : mt_E) (av : List Value) (w : va_W) (sz : Nat) : FrameBlind (pc_P E av w sz) := fun a U g mk q => ⟨q.1, q.2.1, q.2.2.1.same (u := U) (U := U.calling g mk a) rfl, q.2.2.2⟩
theorem pc_last {D : va_G} {cl : List vw_C} {X : va_W} {v : Nat} {e : va_E} {H : Heap} (hP : va_P D cl (X ++ [(v, e)]) H) : va_P D cl [(v, e)] H :=
  hP.by (fun k => X.length + k) (fun k q hk => by rw [List.getElem?_append_right (by omega), Nat.add_sub_cancel_left]; exact hk)
theorem pc_one (v : Nat) (e : va_E) : va_D (fun _ => True) [(v, e)] := by
  refine ⟨fun i j p q hi hj _ => ?_, fun _ _ _ => trivial⟩
  have h1 : i < 1 := (List.getElem?_eq_some_iff.mp hi).1
  have h2 : j < 1 := (List.getElem?_eq_some_iff.mp hj).1
  omega
theorem pc_pre {E : mt_E} {s : State} {H : Heap} {X : va_W} {v : Nat} {e : va_E} {As : List Value} (hG : pc_G E s) (hP : va_P E.1 vwCl (X ++ [(v, e)]) H) : PreS s H (pc_P E (.ref v :: As) [(v, e)] H.size) (.ref v :: As) :=
  ⟨pc_blind E _ _ _, fun U hU hW => ⟨rfl, by rw [hU], hG.warm hW, by rw [hU]; exact pc_last hP, pc_one v e⟩⟩
theorem pc_join {A0 : Nat → Prop} {D : va_G} {cl : List vw_C} {X : va_W} {v : Nat} {e : va_E} {w1 : va_W} {H H1 : Heap} (hP : va_P D cl (X ++ [(v, e)]) H) (hD : va_D A0 (X ++ [(v, e)])) (hk : ∀ x : Nat, x < H.size → ¬ va_A [(v, e)] H.size x → H1[x]? = H[x]?) (hP1 : va_P D cl w1 H1) (hD1 : va_D (va_A [(v, e)] H.size) w1) (hF : ∀ x, va_A [(v, e)] H.size x → A0 x) : va_P D cl (X ++ w1) H1 ∧ va_D A0 (X ++ w1) := by
  have at1 : ∀ (k : Nat) (q : Nat × va_E), X[k]? = some q → (X ++ [(v, e)])[k]? = some q := fun k q hq => by
    rw [List.getElem?_append_left (List.getElem?_eq_some_iff.mp hq).1]; exact hq
  have hX : ∀ (k : Nat) (q : Nat × va_E), X[k]? = some q → q.1 < H.size ∧ ¬ va_A [(v, e)] H.size q.1 := by
    intro k q hq
    have hkl : k < X.length := (List.getElem?_eq_some_iff.mp hq).1
    have h1 := at1 k q hq
    have hlt := (hP k q h1).lt
    refine ⟨hlt, fun hz => ?_⟩
    rcases hz with ⟨k2, e2, h2⟩ | h2
    · have hk2 : k2 < 1 := (List.getElem?_eq_some_iff.mp h2).1
      have hk0 : k2 = 0 := by omega
      subst hk0
      have h3 : (X ++ [(v, e)])[X.length]? = some (v, e) := by simp
      have h4 : (v, e) = (q.1, e2) := Option.some.inj h2
      have h5 : q.1 = v := (congrArg Prod.fst h4).symm
      have := hD.1 k X.length q (v, e) h1 h3 h5
      omega
    · omega
  have hPX : va_P D cl X H := hP.by (fun k => k) at1
  have hDX : va_D A0 X := hD.by (fun k => k) at1 (fun i j _ _ h => h)
  refine ⟨(hPX.kept (fun k q hq => hk q.1 (hX k q hq).1 (hX k q hq).2)).app hP1, hDX.app (hD1.weaken (fun k q _ h => hF _ h)) (fun i j p q hi hj he => ?_)⟩
  exact (hX i p hi).2 (by rw [he]; exact hD1.2 j q hj)
section PC
variable {p : Program} {l : Launch} {e : Env} {R : Room} {s : State} {m : MethodId} {args : Array Value} {below : List Frame} {meth : Method} {c : Code} {H : Heap} {locs : List Loc} {cells slots : Nat} {Q : State → Prop}
variable {cc : ByteArray} {pc : Nat} {ls : Array Slot} {rest : List Value} {E : mt_E} {A : Nat → Prop} {H0 : Heap} {ws : va_W}
theorem pc_call {X : va_W} {v : Nat} {ee : va_E} {wo : (Nat → Nat) → va_W} {mc ms : Nat} {st0 : List Value} {a1 : Array Value} (hr : va_Run p l e R s m args below meth c H locs cells slots mc ms (F0 m pc ls st0) rest (pc_Q E [(v, ee)] H.size wo a1) (va_A [(v, ee)] H.size)) (hP : va_P E.1 vwCl (X ++ [(v, ee)]) H) (hD : va_D A (X ++ [(v, ee)])) (hS : va_S A H0 H locs) (hA : ∀ q, H0.size ≤ q → A q)
    (kk : ∀ (a : Nat → Nat) (H1 : Heap) (locs1 : List Loc), va_P E.1 vwCl (X ++ wo a) H1 → va_D A (X ++ wo a) → va_S A H0 H1 locs1 → W p l e R s m args below meth c H1 locs1 (cells + mc) (slots + ms) Q (F0 m (pc + 3) ls rest)) : W p l e R s m args below meth c H locs cells slots Q (F0 m pc ls st0) := by
  have hF : ∀ q, va_A [(v, ee)] H.size q → A q := by
    intro q hq
    rcases hq with ⟨k, e2, h⟩ | h
    · have hk : k < 1 := (List.getElem?_eq_some_iff.mp h).1
      have h3 : (X ++ [(v, ee)])[X.length + k]? = some (q, e2) := by rw [List.getElem?_append_right (by omega), Nat.add_sub_cancel_left]; exact h
      exact hD.2 _ _ h3
    · exact hA q (Nat.le_trans hS.1 h)
  refine va_callv hr hS (fun q _ h => hF q h) hF (fun u t H1 locs1 ht hvm hw hB hz hk hS1 => ?_)
  obtain ⟨hP1, hD1⟩ := hB
  rw [ht] at hP1
  obtain ⟨x, y⟩ := pc_join hP hD hk hP1 hD1 hF
  exact kk u H1 locs1 x y hS1
/-- a call that makes and changes nothing -/
theorem pc_callk {st0 : List Value} {a1 : Array Value} (hr : va_Run p l e R s m args below meth c H locs cells slots 0 0 (F0 m pc ls st0) rest (va_Qv (fun _ : Unit => True) (fun _ _ => True) (fun _ => False) a1) (fun _ => False)) (hP : va_P E.1 vwCl ws H) (hS : va_S A H0 H locs)
    (kk : ∀ (H1 : Heap) (locs1 : List Loc), va_P E.1 vwCl ws H1 → va_S A H0 H1 locs1 → W p l e R s m args below meth c H1 locs1 (cells + 0) (slots + 0) Q (F0 m (pc + 3) ls rest)) : W p l e R s m args below meth c H locs cells slots Q (F0 m pc ls st0) := by
  refine va_callv hr hS (fun q _ h => h.elim) (fun q h => h.elim) (fun u t H1 locs1 ht hvm hw hB hz hk hS1 => ?_)
  exact kk H1 locs1 (hP.kept (fun k q hq => hk q.1 ((hP k q hq).lt) (fun h => h))) hS1
theorem pc_newa (hx : p.tables.exec = Jvm.exec) (hb : c.code = cc) (harr : (Cond.arrayClass (newarray.typeOf .int)).before args s = true) (hI : mt_I E s) (hP : va_P E.1 vwCl ws H) (hD : va_D A ws) (hS : va_S A H0 H locs) (hA : ∀ q, H0.size ≤ q → A q) {n : Int32} (N' : Nat) (hn : ¬ n < 0) (hN : n.toNatClampNeg = N') (hbytes : N' * componentBytes .int ≤ 536870912) (hcells : cells + 1 ≤ R.cells) (hslots : slots + N' ≤ R.slots) (hdg : decode cc pc = .ok (.newarray .int, 2))
    (kk : ∀ (q : Nat) (H1 : Heap), va_P E.1 vwCl (ws ++ [(q, .inl (E.2.2.1.1, N', .inl (fun _ => 0)))]) H1 → va_D A (ws ++ [(q, .inl (E.2.2.1.1, N', .inl (fun _ => 0)))]) → va_S A H0 H1 locs → W p l e R s m args below meth c H1 locs (cells + 1) (slots + N') Q (F0 m (pc + 2) ls (.ref q :: rest))) : W p l e R s m args below meth c H locs cells slots Q (F0 m pc ls (.int n :: rest)) := by
  refine va_newa (atype := .int) (ty := .int) hx hb harr rfl hI.1 hP hD hS hA (N' := N') (a0 := (N', .inl (fun _ => 0))) (fun cA => by rw [vp_cell_i]; rfl) hn hN hbytes hcells hslots hdg fun q cA H1 hK' hP' hD' hS' => ?_
  have e : cA = E.2.2.1.1 := Option.some.inj ((va_nm_int (hK'.2 4 (cA, .int) rfl).2).symm.trans (va_nm_int (hI.1.2 0 (E.2.2.1.1, .int) rfl).2))
  subst e
  exact kk q H1 hP' hD' hS'
theorem pc_newl (hx : p.tables.exec = Jvm.exec) (hb : c.code = cc) (harr : (Cond.arrayClass (newarray.typeOf .long)).before args s = true) (hI : mt_I E s) (hP : va_P E.1 vwCl ws H) (hD : va_D A ws) (hS : va_S A H0 H locs) (hA : ∀ q, H0.size ≤ q → A q) {n : Int32} (N' : Nat) (hn : ¬ n < 0) (hN : n.toNatClampNeg = N') (hbytes : N' * componentBytes .long ≤ 536870912) (hcells : cells + 1 ≤ R.cells) (hslots : slots + N' ≤ R.slots) (hdg : decode cc pc = .ok (.newarray .long, 2))
    (kk : ∀ (q : Nat) (H1 : Heap), va_P E.1 vwCl (ws ++ [(q, .inl (E.2.2.1.2.1, N', .inr (.inl (fun _ => 0))))]) H1 → va_D A (ws ++ [(q, .inl (E.2.2.1.2.1, N', .inr (.inl (fun _ => 0))))]) → va_S A H0 H1 locs → W p l e R s m args below meth c H1 locs (cells + 1) (slots + N') Q (F0 m (pc + 2) ls (.ref q :: rest))) : W p l e R s m args below meth c H locs cells slots Q (F0 m pc ls (.int n :: rest)) := by
  refine va_newa (atype := .long) (ty := .long) hx hb harr rfl hI.1 hP hD hS hA (N' := N') (a0 := (N', .inr (.inl (fun _ => 0)))) (fun cA => by rw [vp_cell_l]; rfl) hn hN hbytes hcells hslots hdg fun q cA H1 hK' hP' hD' hS' => ?_
  have e : cA = E.2.2.1.2.1 := Option.some.inj ((va_nm_long (hK'.2 4 (cA, .long) rfl).2).symm.trans (va_nm_long (hI.1.2 1 (E.2.2.1.2.1, .long) rfl).2))
  subst e
  exact kk q H1 hP' hD' hS'
theorem pc_nm_obj {U : State} {cA : ClassId} {C : String} (h : va_RA U cA (.object C)) : U.vm.findClass ("[" ++ (FieldType.object C).toString) = some cA := by
  obtain ⟨kA, comp, h1, h2, h3, h4⟩ := h
  exact h4
theorem pc_newh (hx : p.tables.exec = Jvm.exec) (hb : c.code = cc) {own : String} {index : Nat} (hown : s.vm.findClass own = some m.cls) (hclink : (Cond.classLink own index RX4).before args s = true) (hG : pc_G E s) (hP : va_P E.1 vwCl ws H) (hD : va_D A ws) (hS : va_S A H0 H locs) (hA : ∀ q, H0.size ≤ q → A q) {n : Int32} (N' : Nat) (hn : ¬ n < 0) (hN : n.toNatClampNeg = N') (hbytes : N' * 4 ≤ 536870912) (hcells : cells + 1 ≤ R.cells) (hslots : slots + N' ≤ R.slots) (hdg : decode cc pc = .ok (.anewarray index, 3))
    (kk : ∀ (q : Nat) (H1 : Heap), va_P E.1 vwCl (ws ++ [(q, .inl (E.2.2.1.2.2.1, N', .inr (.inr (.inr (.inr (fun _ => none))))))]) H1 → va_D A (ws ++ [(q, .inl (E.2.2.1.2.2.1, N', .inr (.inr (.inr (.inr (fun _ => none))))))]) → va_S A H0 H1 locs → W p l e R s m args below meth c H1 locs (cells + 1) (slots + N') Q (F0 m (pc + 3) ls (.ref q :: rest))) : W p l e R s m args below meth c H locs cells slots Q (F0 m pc ls (.int n :: rest)) := by
  refine va_newq hx hb hown hclink hG.2.2.1 hG.1.1 hP hD hS hA hn hN hbytes hcells hslots hdg fun q cA H1 hK' hP' hD' hS' => ?_
  have e : cA = E.2.2.1.2.2.1 := Option.some.inj ((pc_nm_obj (hK'.2 4 (cA, .object RX4) rfl).2).symm.trans (pc_nm_obj (hG.1.1.2 2 (E.2.2.1.2.2.1, .object RX4) rfl).2))
  subst e
  exact kk q H1 hP' hD' hS'
theorem pc_newk (hx : p.tables.exec = Jvm.exec) (hb : c.code = cc) {own : String} {index : Nat} (hown : s.vm.findClass own = some m.cls) (hclink : (Cond.classLink own index RX6).before args s = true) (hG : pc_G E s) (hP : va_P E.1 vwCl ws H) (hD : va_D A ws) (hS : va_S A H0 H locs) (hA : ∀ q, H0.size ≤ q → A q) {n : Int32} (N' : Nat) (hn : ¬ n < 0) (hN : n.toNatClampNeg = N') (hbytes : N' * 4 ≤ 536870912) (hcells : cells + 1 ≤ R.cells) (hslots : slots + N' ≤ R.slots) (hdg : decode cc pc = .ok (.anewarray index, 3))
    (kk : ∀ (q : Nat) (H1 : Heap), va_P E.1 vwCl (ws ++ [(q, .inl (E.2.2.1.2.2.2, N', .inr (.inr (.inr (.inr (fun _ => none))))))]) H1 → va_D A (ws ++ [(q, .inl (E.2.2.1.2.2.2, N', .inr (.inr (.inr (.inr (fun _ => none))))))]) → va_S A H0 H1 locs → W p l e R s m args below meth c H1 locs (cells + 1) (slots + N') Q (F0 m (pc + 3) ls (.ref q :: rest))) : W p l e R s m args below meth c H locs cells slots Q (F0 m pc ls (.int n :: rest)) := by
  refine va_newq hx hb hown hclink hG.2.1 hG.1.1 hP hD hS hA hn hN hbytes hcells hslots hdg fun q cA H1 hK' hP' hD' hS' => ?_
  have e : cA = E.2.2.1.2.2.2 := Option.some.inj ((pc_nm_obj (hK'.2 4 (cA, .object RX6) rfl).2).symm.trans (pc_nm_obj (hG.1.1.2 3 (E.2.2.1.2.2.2, .object RX6) rfl).2))
  subst e
  exact kk q H1 hP' hD' hS'
end PC
/-- what lies where, behind a constructor -/
abbrev pc_ar (t : ClassId) (n : Nat) : va_E := .inl (t, n, .inl (fun _ => 0))
def pc_cup (t : ClassId) (K c : Nat) (a : Nat → Nat) : va_W := [(c, .inr (0, [.ref K, .ref (a 0), .ref (a 1), .ref (a 2), .ref (a 3), .ref (a 4), .ref (a 5), .ref (a 6), .int 0, .int 0, .int 0, .int 0])), (a 0, pc_ar t 7), (a 1, pc_ar t 7), (a 2, pc_ar t 7), (a 3, pc_ar t 7), (a 4, pc_ar t 7), (a 5, pc_ar t 7), (a 6, pc_ar t 7)]
def pc_c (q : Nat) (b : Nat → Nat) : Nat → Nat
  | 0 => q
  | j + 1 => b j
def pc_hou (t : ClassId) (K h : Nat) (a : Nat → Nat) : va_W := [(h, .inr (4, [.ref (a 2), .ref (a 0), .ref (a 1), .int 0, .int 0, .int 0])), (a 0, pc_ar t 2), (a 1, pc_ar t 14)] ++ pc_cup t K (a 2) (fun j => a (j + 3))
def pc_min (t : ClassId) (K B mi : Nat) (a : Nat → Nat) : va_W := [(mi, .inr (8, [.ref B, .ref (a 3), .ref (a 0), .ref (a 1), .ref (a 2)])), (a 0, pc_ar t 7), (a 1, pc_ar t 7), (a 2, pc_ar t 7)] ++ pc_cup t K (a 3) (fun j => a (j + 4))
def pc_let (t : ClassId) (le : Nat) (a : Nat → Nat) : va_W := [(le, .inr (7, [.ref (a 0), .int 0])), (a 0, pc_ar t 96)]

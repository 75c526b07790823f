/-! WHICH IDS ARE WHAT -/
def mt_hous : List Nat := [10, 21, 32, 45, 56, 67, 78, 89, 100, 111, 122]
abbrev mt_hou (h : Nat) : Prop := h ∈ mt_hous
def mt_cups : List Nat := [13, 24, 35, 48, 59, 70, 81, 92, 103, 114, 125, 137]
abbrev mt_cup (c : Nat) : Prop := c ∈ mt_cups
theorem mt_all {l : List Nat} {P : Nat → Prop} [DecidablePred P] (h : l.all (fun i => decide (P i)) = true) {i : Nat} (hi : i ∈ l) : P i := of_decide_eq_true (List.all_eq_true.mp h i hi)
theorem mt_hou_cup {h : Nat} (hh : mt_hou h) : mt_cup (h + 3) := mt_all (l := mt_hous) (P := fun h => mt_cup (h + 3)) (by decide +kernel) hh
theorem mt_T_cup {c : Nat} (hc : mt_cup c) : mt_T c = (1, 0, [some 3, some (c + 1), some (c + 2), some (c + 3), some (c + 4), some (c + 5), some (c + 6), some (c + 7), none, none, none, none]) := mt_all (l := mt_cups) (P := fun c => mt_T c = (1, 0, [some 3, some (c + 1), some (c + 2), some (c + 3), some (c + 4), some (c + 5), some (c + 6), some (c + 7), none, none, none, none])) (by decide +kernel) hc
theorem mt_T_cupA {c : Nat} (hc : mt_cup c) (k : Nat) (h1 : 1 ≤ k) (h2 : k ≤ 7) : mt_T (c + k) = (0, 7, []) := by
  have h := mt_all (l := mt_cups) (P := fun c => mt_T (c + 1) = (0, 7, []) ∧ mt_T (c + 2) = (0, 7, []) ∧ mt_T (c + 3) = (0, 7, []) ∧ mt_T (c + 4) = (0, 7, []) ∧ mt_T (c + 5) = (0, 7, []) ∧ mt_T (c + 6) = (0, 7, []) ∧ mt_T (c + 7) = (0, 7, [])) (by decide +kernel) hc
  obtain ⟨e1, e2, e3, e4, e5, e6, e7⟩ := h
  rcases (show k = 1 ∨ k = 2 ∨ k = 3 ∨ k = 4 ∨ k = 5 ∨ k = 6 ∨ k = 7 by omega) with rfl | rfl | rfl | rfl | rfl | rfl | rfl
  · exact e1
  · exact e2
  · exact e3
  · exact e4
  · exact e5
  · exact e6
  · exact e7
theorem mt_T_hou {h : Nat} (hh : mt_hou h) : mt_T h = (1, 4, [some (h + 3), some (h + 1), some (h + 2), none, none, none]) := mt_all (l := mt_hous) (P := fun h => mt_T h = (1, 4, [some (h + 3), some (h + 1), some (h + 2), none, none, none])) (by decide +kernel) hh
theorem mt_T_houW {h : Nat} (hh : mt_hou h) : mt_T (h + 1) = (0, 2, []) := mt_all (l := mt_hous) (P := fun h => mt_T (h + 1) = (0, 2, [])) (by decide +kernel) hh
theorem mt_T_houC {h : Nat} (hh : mt_hou h) : mt_T (h + 2) = (0, 14, []) := mt_all (l := mt_hous) (P := fun h => mt_T (h + 2) = (0, 14, [])) (by decide +kernel) hh
theorem mt_kind6 {g : Nat} (h : 4 ≤ g ∧ g < 10) : g = 4 ∨ g = 5 ∨ g = 6 ∨ g = 7 ∨ g = 8 ∨ g = 9 := by omega
theorem mt_kind_ix {j : Int32} {g : Nat} (q : vp_in j 6) (e : g = 4 + j.toNatClampNeg) : 4 ≤ g ∧ g < 10 := by
  have h : j.toNatClampNeg < 6 := Nat.not_le.mp fun z => q (Or.inr z)
  omega
theorem mt_hou_ix {j : Int32} {g : Nat} (q : vp_in j 8) (e : g = 45 + 11 * j.toNatClampNeg) : mt_hou g := by
  have h : j.toNatClampNeg < 8 := Nat.not_le.mp fun z => q (Or.inr z)
  generalize j.toNatClampNeg = k at h e
  subst e
  have h8 : ∀ k, k < 8 → mt_hou (45 + 11 * k) := by decide +kernel
  exact h8 k h
theorem mt_vl {j : Int32} {n : Nat} (h : ¬ (j < 0 ∨ n ≤ j.toNatClampNeg)) : vp_in j n := h
theorem mt_hou_rng {j : Int32} {g : Nat} (q : vp_in j 8) (e : g = 45 + 11 * j.toNatClampNeg) : 45 ≤ g ∧ g ≤ 122 := by
  have h : j.toNatClampNeg < 8 := Nat.not_le.mp fun z => q (Or.inr z)
  omega
theorem mt_mu_ne {m : mt_M} {a b : Nat} {f : Nat → Int32} (h : b ≠ a) : mt_mu m a f b = m b := if_neg h
theorem mt_wr_ne2 {m : mt_M} {a k b j : Nat} {x : Int32} (h : b ≠ a ∨ j ≠ k) : mt_wr m a k x b j = m b j := by
  by_cases q : b = a
  · subst q
    have h2 : j ≠ k := h.resolve_left (fun z => z rfl)
    simp [mt_wr, mt_mu, upd, h2]
  · simp [mt_wr, mt_mu, q]
theorem mt_ne {x y : Int32} {k : Int} (hy : Int32.ofInt k = y) (h : ¬ x = y) : ¬ k = x.toInt := fun e => h (by rw [← hy, e]; exact (Int32.ofInt_toInt x).symm)
theorem mt_kindOf_rng {c : Nat} {a : Int32} {M : mt_M} {r : Nat} (h : f_X0_kindOf c a M = some r) : 4 ≤ r ∧ r < 10 := by
  unfold f_X0_kindOf at h
  refine mt_b1I h (fun r2 _ h => ?_)
  split at h
  · refine mt_ciI h (fun q h => ?_)
    have h2 := Option.some.inj h
    exact mt_kind_ix q h2.symm
  · refine mt_ciI h (fun _ h => ?_)
    refine mt_ciI h (fun q h => ?_)
    have h2 := Option.some.inj h
    exact mt_kind_ix q h2.symm
theorem mt_T0 : mt_T 0 = (1, 11, [some 10, some 21, some 32, none, some 43, some 133, some 145, some 1, none, some 2]) := by decide +kernel
theorem mt_T1 : mt_T 1 = (0, 12, []) := by decide +kernel
theorem mt_T2 : mt_T 2 = (0, 7, []) := by decide +kernel
theorem mt_T4 : mt_T 4 = (1, 6, []) := by decide +kernel
theorem mt_T5 : mt_T 5 = (1, 9, []) := by decide +kernel
theorem mt_T6 : mt_T 6 = (1, 5, []) := by decide +kernel
theorem mt_T7 : mt_T 7 = (1, 1, []) := by decide +kernel
theorem mt_T8 : mt_T 8 = (1, 2, []) := by decide +kernel
theorem mt_T9 : mt_T 9 = (1, 10, []) := by decide +kernel
theorem mt_T10 : mt_T 10 = (1, 4, [some 13, some 11, some 12, none, none, none]) := by decide +kernel
theorem mt_T13 : mt_T 13 = (1, 0, [some 3, some 14, some 15, some 16, some 17, some 18, some 19, some 20, none, none, none, none]) := by decide +kernel
theorem mt_T32 : mt_T 32 = (1, 4, [some 35, some 33, some 34, none, none, none]) := by decide +kernel
theorem mt_T43 : mt_T 43 = (1, 3, [some 44, none, none]) := by decide +kernel
theorem mt_T133 : mt_T 133 = (1, 8, [some 10, some 137, some 134, some 135, some 136]) := by decide +kernel
theorem mt_T134 : mt_T 134 = (0, 7, []) := by decide +kernel
theorem mt_T135 : mt_T 135 = (0, 7, []) := by decide +kernel
theorem mt_T136 : mt_T 136 = (0, 7, []) := by decide +kernel
theorem mt_T137 : mt_T 137 = (1, 0, [some 3, some 138, some 139, some 140, some 141, some 142, some 143, some 144, none, none, none, none]) := by decide +kernel
theorem mt_T145 : mt_T 145 = (1, 7, [some 146, none]) := by decide +kernel
theorem mt_T146 : mt_T 146 = (0, 96, []) := by decide +kernel
theorem mt_T147 : mt_T 147 = (1, 12, [some 148, some 149, some 150, some 151, some 152, some 153, some 154, some 155, none, none, none, none, some 156, some 157, some 158, some 159, none, none, none, some 160, none, none, none, none, none, some 161, some 162, none, some 163]) := by decide +kernel
theorem mt_T148 : mt_T 148 = (0, 7, []) := by decide +kernel
theorem mt_T149 : mt_T 149 = (0, 7, []) := by decide +kernel
theorem mt_T150 : mt_T 150 = (0, 7, []) := by decide +kernel
theorem mt_T151 : mt_T 151 = (0, 7, []) := by decide +kernel
theorem mt_T152 : mt_T 152 = (0, 7, []) := by decide +kernel
theorem mt_T153 : mt_T 153 = (0, 14, []) := by decide +kernel
theorem mt_T154 : mt_T 154 = (0, 14, []) := by decide +kernel
theorem mt_T155 : mt_T 155 = (0, 3, []) := by decide +kernel
theorem mt_T156 : mt_T 156 = (0, 96, []) := by decide +kernel
theorem mt_T157 : mt_T 157 = (0, 48, []) := by decide +kernel
theorem mt_T158 : mt_T 158 = (0, 48, []) := by decide +kernel
theorem mt_T159 : mt_T 159 = (0, 144, []) := by decide +kernel
theorem mt_T160 : mt_T 160 = (0, 780, []) := by decide +kernel
theorem mt_T162 : mt_T 162 = (0, 12, []) := by decide +kernel
theorem mt_T163 : mt_T 163 = (0, 7, []) := by decide +kernel

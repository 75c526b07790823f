/-! SEARCHES -/
def sp_find (P : Nat → Bool) : Nat → Option Nat
  | 0 => none
  | n + 1 => match sp_find P n with
    | some i => some i
    | none => if P n = true then some n else none
theorem sp_find_none {P : Nat → Bool} {n : Nat} (h : ∀ j, j < n → P j = false) : sp_find P n = none := by
  induction n with
  | zero => rfl
  | succ n ih =>
    simp only [sp_find]
    rw [ih (fun j hj => h j (by omega))]
    simp [h n (by omega)]
theorem sp_find_some {P : Nat → Bool} {n i : Nat} (hi : i < n) (h1 : P i = true) (h : ∀ j, j < i → P j = false) : sp_find P n = some i := by
  induction n with
  | zero => exact absurd hi (by omega)
  | succ n ih =>
    simp only [sp_find]
    by_cases q : i = n
    · subst q; rw [sp_find_none h]; simp [h1]
    · rw [ih (by omega)]
theorem sp_find_lt {P : Nat → Bool} {n i : Nat} (h : sp_find P n = some i) : i < n ∧ P i = true := by
  induction n with
  | zero => cases h
  | succ n ih =>
    simp only [sp_find] at h
    cases q : sp_find P n with
    | some j =>
      rw [q] at h
      obtain rfl := Option.some.inj h
      exact ⟨by have := (ih q).1; omega, (ih q).2⟩
    | none =>
      rw [q] at h
      by_cases z : P n = true
      · simp only [z, if_true] at h
        obtain rfl := Option.some.inj h
        exact ⟨by omega, z⟩
      · simp [z] at h
theorem sp_find_nn {P : Nat → Bool} {n : Nat} (h : sp_find P n = none) : ∀ j, j < n → P j = false := by
  induction n with
  | zero => intro j hj; omega
  | succ n ih =>
    intro j hj
    simp only [sp_find] at h
    cases q : sp_find P n with
    | some i => rw [q] at h; cases h
    | none =>
      rw [q] at h
      by_cases z : P n = true
      · simp [z] at h
      · by_cases e : j = n
        · subst e; simpa using z
        · exact ih q j (by omega)
theorem sp_find_congr {P Q : Nat → Bool} {n : Nat} (h : ∀ j, j < n → P j = Q j) : sp_find P n = sp_find Q n := by
  induction n with
  | zero => rfl
  | succ n ih => simp only [sp_find]; rw [ih (fun j hj => h j (by omega)), h n (by omega)]
def sp_last (P : Nat → Bool) : Nat → Option Nat
  | 0 => none
  | n + 1 => if P n = true then some n else sp_last P n
theorem sp_last_lt {P : Nat → Bool} {n i : Nat} (h : sp_last P n = some i) : i < n ∧ P i = true := by
  induction n with
  | zero => cases h
  | succ n ih =>
    simp only [sp_last] at h
    by_cases q : P n = true
    · rw [if_pos q] at h; obtain rfl := Option.some.inj h; exact ⟨by omega, q⟩
    · rw [if_neg q] at h; exact ⟨by have := (ih h).1; omega, (ih h).2⟩
theorem sp_last_congr {P Q : Nat → Bool} {n : Nat} (h : ∀ j, j < n → P j = Q j) : sp_last P n = sp_last Q n := by
  induction n with
  | zero => rfl
  | succ n ih => simp only [sp_last]; rw [ih (fun j hj => h j (by omega)), h n (by omega)]
/-- bounds that nothing unfolds -/
noncomputable def sp_n21 : Nat := Classical.choose (⟨21, rfl⟩ : ∃ n : Nat, n = 21)
theorem sp_e21 : sp_n21 = 21 := Classical.choose_spec (⟨21, rfl⟩ : ∃ n : Nat, n = 21)
noncomputable def sp_n60 : Nat := Classical.choose (⟨60, rfl⟩ : ∃ n : Nat, n = 60)
theorem sp_e60 : sp_n60 = 60 := Classical.choose_spec (⟨60, rfl⟩ : ∃ n : Nat, n = 60)
noncomputable def sp_n100 : Nat := Classical.choose (⟨100, rfl⟩ : ∃ n : Nat, n = 100)
theorem sp_e100 : sp_n100 = 100 := Classical.choose_spec (⟨100, rfl⟩ : ∃ n : Nat, n = 100)
noncomputable def sp_n30 : Nat := Classical.choose (⟨30, rfl⟩ : ∃ n : Nat, n = 30)
theorem sp_e30 : sp_n30 = 30 := Classical.choose_spec (⟨30, rfl⟩ : ∃ n : Nat, n = 30)
/-- -9 for none -/
def sp_ov : Option Nat → Int32
  | some d => nI d
  | none => -9
theorem sp_ov_neg {o : Option Nat} (h : ∀ i, o = some i → i < 2 ^ 31) : (sp_ov o < 0 ↔ o = none) ∧ (0 ≤ sp_ov o ↔ o ≠ none) ∧ (sp_ov o = -9 ↔ o = none) := by
  cases o with
  | none => simp [sp_ov]
  | some i =>
    have hi := h i rfl
    have h0 : ¬ nI i < 0 := nI_pos hi
    have h1 : 0 ≤ nI i := nI_pos' hi
    refine ⟨by simp [sp_ov, h0], by simp [sp_ov, h1], ?_⟩
    simp only [sp_ov]
    constructor
    · intro q; rw [q] at h0; exact absurd (by decide) h0
    · intro q; cases q
/-- one more than what is found -/
def sp_suc : Option Nat → Option Nat
  | some d => some (d + 1)
  | none => none
/-- the packs that are wanted -/
def sp_w (A : hs_A) (t k : Nat) : Nat := min 99 (A 3 t + k * sp_pk (A 0 t))
noncomputable def sp_pf (A : hs_A) (t n : Nat) : Option Nat := sp_find (fun k => sp_lN (A 0 t) (A 1 t) (A 2 t) n (sp_w A t k) == 0) sp_n21
noncomputable def sp_pks (A : hs_A) (t n : Nat) : Nat := match sp_pf A t n with
  | some k => k
  | none => 99
theorem sp_pks_99 (A : hs_A) (t n : Nat) : (sp_pks A t n = 99 ↔ sp_pf A t n = none) ∧ sp_pks A t n ≤ 99 := by
  unfold sp_pks
  cases h : sp_pf A t n with
  | none => simp
  | some k =>
    have h1 := (sp_find_lt h).1
    rw [sp_e21] at h1
    simp; omega
noncomputable def sp_ro (A : hs_A) (t : Nat) : Option Nat := sp_suc (sp_find (fun d => decide (sp_sN (A 0 t) (A 1 t) (A 2 t) d (A 3 t) < A 2 t)) sp_n60)
theorem sp_ro_lt {A : hs_A} {t d : Nat} (h : sp_ro A t = some d) : d ≤ 60 ∧ 1 ≤ d := by
  unfold sp_ro at h
  cases q : sp_find (fun d => decide (sp_sN (A 0 t) (A 1 t) (A 2 t) d (A 3 t) < A 2 t)) sp_n60 with
  | none => rw [q] at h; cases h
  | some j =>
    rw [q] at h
    have h1 := (sp_find_lt q).1
    rw [sp_e60] at h1
    obtain rfl := Option.some.inj h
    omega
/-- the first thing that runs out: best so far, and its day -/
noncomputable def sp_fo (A : hs_A) : Nat → Option Nat × Nat
  | 0 => (none, 61)
  | i + 1 => match sp_ro A i with
    | none => sp_fo A i
    | some d => if d < (sp_fo A i).2 then (some i, d) else sp_fo A i
theorem sp_fo_le (A : hs_A) (i : Nat) : (sp_fo A i).2 ≤ 61 ∧ ∀ j, (sp_fo A i).1 = some j → j < i := by
  induction i with
  | zero => exact ⟨Nat.le_refl _, fun j h => by cases h⟩
  | succ i ih =>
    have hlt : ∀ d, sp_ro A i = some d → d ≤ 60 ∧ 1 ≤ d := fun d h => sp_ro_lt h
    simp only [sp_fo]
    generalize sp_ro A i = o at hlt ⊢
    cases o with
    | none => exact ⟨ih.1, fun j q => Nat.lt_succ_of_lt (ih.2 j q)⟩
    | some d =>
      have h1 := (hlt d rfl).1
      by_cases q : d < (sp_fo A i).2
      · simp only [if_pos q]
        exact ⟨by omega, fun j z => by have := Option.some.inj z; omega⟩
      · simp only [if_neg q]
        exact ⟨ih.1, fun j z => Nat.lt_succ_of_lt (ih.2 j z)⟩

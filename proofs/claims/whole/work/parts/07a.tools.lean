/-! PURE TOOLS: loops by invariants; numbers -/
theorem mt_lpE1 {A1 R : Type} {F : (A1 → Option R) → A1 → Option R} {P : Option R → Prop} (I : Nat → A1 → Prop) (e : Nat) (hs : ∀ i, i < e → ∀ (a1 : A1), I i a1 → ∀ k : A1 → Option R, (∃ (b1 : A1), I (i + 1) b1 ∧ F k a1 = k b1) ∨ P (F k a1)) (hx : ∀ (a1 : A1), I e a1 → ∀ k : A1 → Option R, P (F k a1)) : ∀ (n i : Nat) (a1 : A1), i ≤ e → e < n + i → I i a1 → P (mt_lp1 F n a1) := by
  intro n
  induction n with
  | zero => intro i a1 h1 h2; exact absurd h2 (by omega)
  | succ n ih =>
    intro i a1 h1 h2 hI
    show P (F (mt_lp1 F n) a1)
    by_cases h : i = e
    · subst h; exact hx a1 hI _
    · rcases hs i (by omega) a1 hI (mt_lp1 F n) with ⟨b1, hb, e9⟩ | h9
      · rw [e9]; exact ih (i + 1) b1 (by omega) (by omega) hb
      · exact h9
theorem mt_lz1 {A1 R : Type} {F : (A1 → Option R) → A1 → Option R} {P : Option R → Prop} (I : Nat → A1 → Prop) (e : Nat) (he : e < 1100) (hs : ∀ i, i < e → ∀ (a1 : A1), I i a1 → ∀ k : A1 → Option R, (∃ (b1 : A1), I (i + 1) b1 ∧ F k a1 = k b1) ∨ P (F k a1)) (hx : ∀ (a1 : A1), I e a1 → ∀ k : A1 → Option R, P (F k a1)) {a1 : A1} (h0 : I 0 a1) : P (mt_lp1 F mt_FU a1) := mt_lpE1 I e hs hx mt_FU 0 a1 (Nat.zero_le _) he h0
theorem mt_lpE2 {A1 A2 R : Type} {F : (A1 → A2 → Option R) → A1 → A2 → Option R} {P : Option R → Prop} (I : Nat → A1 → A2 → Prop) (e : Nat) (hs : ∀ i, i < e → ∀ (a1 : A1) (a2 : A2), I i a1 a2 → ∀ k : A1 → A2 → Option R, (∃ (b1 : A1) (b2 : A2), I (i + 1) b1 b2 ∧ F k a1 a2 = k b1 b2) ∨ P (F k a1 a2)) (hx : ∀ (a1 : A1) (a2 : A2), I e a1 a2 → ∀ k : A1 → A2 → Option R, P (F k a1 a2)) : ∀ (n i : Nat) (a1 : A1) (a2 : A2), i ≤ e → e < n + i → I i a1 a2 → P (mt_lp2 F n a1 a2) := by
  intro n
  induction n with
  | zero => intro i a1 a2 h1 h2; exact absurd h2 (by omega)
  | succ n ih =>
    intro i a1 a2 h1 h2 hI
    show P (F (mt_lp2 F n) a1 a2)
    by_cases h : i = e
    · subst h; exact hx a1 a2 hI _
    · rcases hs i (by omega) a1 a2 hI (mt_lp2 F n) with ⟨b1, b2, hb, e9⟩ | h9
      · rw [e9]; exact ih (i + 1) b1 b2 (by omega) (by omega) hb
      · exact h9
theorem mt_lz2 {A1 A2 R : Type} {F : (A1 → A2 → Option R) → A1 → A2 → Option R} {P : Option R → Prop} (I : Nat → A1 → A2 → Prop) (e : Nat) (he : e < 1100) (hs : ∀ i, i < e → ∀ (a1 : A1) (a2 : A2), I i a1 a2 → ∀ k : A1 → A2 → Option R, (∃ (b1 : A1) (b2 : A2), I (i + 1) b1 b2 ∧ F k a1 a2 = k b1 b2) ∨ P (F k a1 a2)) (hx : ∀ (a1 : A1) (a2 : A2), I e a1 a2 → ∀ k : A1 → A2 → Option R, P (F k a1 a2)) {a1 : A1} {a2 : A2} (h0 : I 0 a1 a2) : P (mt_lp2 F mt_FU a1 a2) := mt_lpE2 I e hs hx mt_FU 0 a1 a2 (Nat.zero_le _) he h0
theorem mt_lpE3 {A1 A2 A3 R : Type} {F : (A1 → A2 → A3 → Option R) → A1 → A2 → A3 → Option R} {P : Option R → Prop} (I : Nat → A1 → A2 → A3 → Prop) (e : Nat) (hs : ∀ i, i < e → ∀ (a1 : A1) (a2 : A2) (a3 : A3), I i a1 a2 a3 → ∀ k : A1 → A2 → A3 → Option R, (∃ (b1 : A1) (b2 : A2) (b3 : A3), I (i + 1) b1 b2 b3 ∧ F k a1 a2 a3 = k b1 b2 b3) ∨ P (F k a1 a2 a3)) (hx : ∀ (a1 : A1) (a2 : A2) (a3 : A3), I e a1 a2 a3 → ∀ k : A1 → A2 → A3 → Option R, P (F k a1 a2 a3)) : ∀ (n i : Nat) (a1 : A1) (a2 : A2) (a3 : A3), i ≤ e → e < n + i → I i a1 a2 a3 → P (mt_lp3 F n a1 a2 a3) := by
  intro n
  induction n with
  | zero => intro i a1 a2 a3 h1 h2; exact absurd h2 (by omega)
  | succ n ih =>
    intro i a1 a2 a3 h1 h2 hI
    show P (F (mt_lp3 F n) a1 a2 a3)
    by_cases h : i = e
    · subst h; exact hx a1 a2 a3 hI _
    · rcases hs i (by omega) a1 a2 a3 hI (mt_lp3 F n) with ⟨b1, b2, b3, hb, e9⟩ | h9
      · rw [e9]; exact ih (i + 1) b1 b2 b3 (by omega) (by omega) hb
      · exact h9
theorem mt_lz3 {A1 A2 A3 R : Type} {F : (A1 → A2 → A3 → Option R) → A1 → A2 → A3 → Option R} {P : Option R → Prop} (I : Nat → A1 → A2 → A3 → Prop) (e : Nat) (he : e < 1100) (hs : ∀ i, i < e → ∀ (a1 : A1) (a2 : A2) (a3 : A3), I i a1 a2 a3 → ∀ k : A1 → A2 → A3 → Option R, (∃ (b1 : A1) (b2 : A2) (b3 : A3), I (i + 1) b1 b2 b3 ∧ F k a1 a2 a3 = k b1 b2 b3) ∨ P (F k a1 a2 a3)) (hx : ∀ (a1 : A1) (a2 : A2) (a3 : A3), I e a1 a2 a3 → ∀ k : A1 → A2 → A3 → Option R, P (F k a1 a2 a3)) {a1 : A1} {a2 : A2} {a3 : A3} (h0 : I 0 a1 a2 a3) : P (mt_lp3 F mt_FU a1 a2 a3) := mt_lpE3 I e hs hx mt_FU 0 a1 a2 a3 (Nat.zero_le _) he h0
theorem mt_lpE4 {A1 A2 A3 A4 R : Type} {F : (A1 → A2 → A3 → A4 → Option R) → A1 → A2 → A3 → A4 → Option R} {P : Option R → Prop} (I : Nat → A1 → A2 → A3 → A4 → Prop) (e : Nat) (hs : ∀ i, i < e → ∀ (a1 : A1) (a2 : A2) (a3 : A3) (a4 : A4), I i a1 a2 a3 a4 → ∀ k : A1 → A2 → A3 → A4 → Option R, (∃ (b1 : A1) (b2 : A2) (b3 : A3) (b4 : A4), I (i + 1) b1 b2 b3 b4 ∧ F k a1 a2 a3 a4 = k b1 b2 b3 b4) ∨ P (F k a1 a2 a3 a4)) (hx : ∀ (a1 : A1) (a2 : A2) (a3 : A3) (a4 : A4), I e a1 a2 a3 a4 → ∀ k : A1 → A2 → A3 → A4 → Option R, P (F k a1 a2 a3 a4)) : ∀ (n i : Nat) (a1 : A1) (a2 : A2) (a3 : A3) (a4 : A4), i ≤ e → e < n + i → I i a1 a2 a3 a4 → P (mt_lp4 F n a1 a2 a3 a4) := by
  intro n
  induction n with
  | zero => intro i a1 a2 a3 a4 h1 h2; exact absurd h2 (by omega)
  | succ n ih =>
    intro i a1 a2 a3 a4 h1 h2 hI
    show P (F (mt_lp4 F n) a1 a2 a3 a4)
    by_cases h : i = e
    · subst h; exact hx a1 a2 a3 a4 hI _
    · rcases hs i (by omega) a1 a2 a3 a4 hI (mt_lp4 F n) with ⟨b1, b2, b3, b4, hb, e9⟩ | h9
      · rw [e9]; exact ih (i + 1) b1 b2 b3 b4 (by omega) (by omega) hb
      · exact h9
theorem mt_lz4 {A1 A2 A3 A4 R : Type} {F : (A1 → A2 → A3 → A4 → Option R) → A1 → A2 → A3 → A4 → Option R} {P : Option R → Prop} (I : Nat → A1 → A2 → A3 → A4 → Prop) (e : Nat) (he : e < 1100) (hs : ∀ i, i < e → ∀ (a1 : A1) (a2 : A2) (a3 : A3) (a4 : A4), I i a1 a2 a3 a4 → ∀ k : A1 → A2 → A3 → A4 → Option R, (∃ (b1 : A1) (b2 : A2) (b3 : A3) (b4 : A4), I (i + 1) b1 b2 b3 b4 ∧ F k a1 a2 a3 a4 = k b1 b2 b3 b4) ∨ P (F k a1 a2 a3 a4)) (hx : ∀ (a1 : A1) (a2 : A2) (a3 : A3) (a4 : A4), I e a1 a2 a3 a4 → ∀ k : A1 → A2 → A3 → A4 → Option R, P (F k a1 a2 a3 a4)) {a1 : A1} {a2 : A2} {a3 : A3} {a4 : A4} (h0 : I 0 a1 a2 a3 a4) : P (mt_lp4 F mt_FU a1 a2 a3 a4) := mt_lpE4 I e hs hx mt_FU 0 a1 a2 a3 a4 (Nat.zero_le _) he h0
theorem mt_lpE5 {A1 A2 A3 A4 A5 R : Type} {F : (A1 → A2 → A3 → A4 → A5 → Option R) → A1 → A2 → A3 → A4 → A5 → Option R} {P : Option R → Prop} (I : Nat → A1 → A2 → A3 → A4 → A5 → Prop) (e : Nat) (hs : ∀ i, i < e → ∀ (a1 : A1) (a2 : A2) (a3 : A3) (a4 : A4) (a5 : A5), I i a1 a2 a3 a4 a5 → ∀ k : A1 → A2 → A3 → A4 → A5 → Option R, (∃ (b1 : A1) (b2 : A2) (b3 : A3) (b4 : A4) (b5 : A5), I (i + 1) b1 b2 b3 b4 b5 ∧ F k a1 a2 a3 a4 a5 = k b1 b2 b3 b4 b5) ∨ P (F k a1 a2 a3 a4 a5)) (hx : ∀ (a1 : A1) (a2 : A2) (a3 : A3) (a4 : A4) (a5 : A5), I e a1 a2 a3 a4 a5 → ∀ k : A1 → A2 → A3 → A4 → A5 → Option R, P (F k a1 a2 a3 a4 a5)) : ∀ (n i : Nat) (a1 : A1) (a2 : A2) (a3 : A3) (a4 : A4) (a5 : A5), i ≤ e → e < n + i → I i a1 a2 a3 a4 a5 → P (mt_lp5 F n a1 a2 a3 a4 a5) := by
  intro n
  induction n with
  | zero => intro i a1 a2 a3 a4 a5 h1 h2; exact absurd h2 (by omega)
  | succ n ih =>
    intro i a1 a2 a3 a4 a5 h1 h2 hI
    show P (F (mt_lp5 F n) a1 a2 a3 a4 a5)
    by_cases h : i = e
    · subst h; exact hx a1 a2 a3 a4 a5 hI _
    · rcases hs i (by omega) a1 a2 a3 a4 a5 hI (mt_lp5 F n) with ⟨b1, b2, b3, b4, b5, hb, e9⟩ | h9
      · rw [e9]; exact ih (i + 1) b1 b2 b3 b4 b5 (by omega) (by omega) hb
      · exact h9
theorem mt_lz5 {A1 A2 A3 A4 A5 R : Type} {F : (A1 → A2 → A3 → A4 → A5 → Option R) → A1 → A2 → A3 → A4 → A5 → Option R} {P : Option R → Prop} (I : Nat → A1 → A2 → A3 → A4 → A5 → Prop) (e : Nat) (he : e < 1100) (hs : ∀ i, i < e → ∀ (a1 : A1) (a2 : A2) (a3 : A3) (a4 : A4) (a5 : A5), I i a1 a2 a3 a4 a5 → ∀ k : A1 → A2 → A3 → A4 → A5 → Option R, (∃ (b1 : A1) (b2 : A2) (b3 : A3) (b4 : A4) (b5 : A5), I (i + 1) b1 b2 b3 b4 b5 ∧ F k a1 a2 a3 a4 a5 = k b1 b2 b3 b4 b5) ∨ P (F k a1 a2 a3 a4 a5)) (hx : ∀ (a1 : A1) (a2 : A2) (a3 : A3) (a4 : A4) (a5 : A5), I e a1 a2 a3 a4 a5 → ∀ k : A1 → A2 → A3 → A4 → A5 → Option R, P (F k a1 a2 a3 a4 a5)) {a1 : A1} {a2 : A2} {a3 : A3} {a4 : A4} {a5 : A5} (h0 : I 0 a1 a2 a3 a4 a5) : P (mt_lp5 F mt_FU a1 a2 a3 a4 a5) := mt_lpE5 I e hs hx mt_FU 0 a1 a2 a3 a4 a5 (Nat.zero_le _) he h0
theorem mt_lpE6 {A1 A2 A3 A4 A5 A6 R : Type} {F : (A1 → A2 → A3 → A4 → A5 → A6 → Option R) → A1 → A2 → A3 → A4 → A5 → A6 → Option R} {P : Option R → Prop} (I : Nat → A1 → A2 → A3 → A4 → A5 → A6 → Prop) (e : Nat) (hs : ∀ i, i < e → ∀ (a1 : A1) (a2 : A2) (a3 : A3) (a4 : A4) (a5 : A5) (a6 : A6), I i a1 a2 a3 a4 a5 a6 → ∀ k : A1 → A2 → A3 → A4 → A5 → A6 → Option R, (∃ (b1 : A1) (b2 : A2) (b3 : A3) (b4 : A4) (b5 : A5) (b6 : A6), I (i + 1) b1 b2 b3 b4 b5 b6 ∧ F k a1 a2 a3 a4 a5 a6 = k b1 b2 b3 b4 b5 b6) ∨ P (F k a1 a2 a3 a4 a5 a6)) (hx : ∀ (a1 : A1) (a2 : A2) (a3 : A3) (a4 : A4) (a5 : A5) (a6 : A6), I e a1 a2 a3 a4 a5 a6 → ∀ k : A1 → A2 → A3 → A4 → A5 → A6 → Option R, P (F k a1 a2 a3 a4 a5 a6)) : ∀ (n i : Nat) (a1 : A1) (a2 : A2) (a3 : A3) (a4 : A4) (a5 : A5) (a6 : A6), i ≤ e → e < n + i → I i a1 a2 a3 a4 a5 a6 → P (mt_lp6 F n a1 a2 a3 a4 a5 a6) := by
  intro n
  induction n with
  | zero => intro i a1 a2 a3 a4 a5 a6 h1 h2; exact absurd h2 (by omega)
  | succ n ih =>
    intro i a1 a2 a3 a4 a5 a6 h1 h2 hI
    show P (F (mt_lp6 F n) a1 a2 a3 a4 a5 a6)
    by_cases h : i = e
    · subst h; exact hx a1 a2 a3 a4 a5 a6 hI _
    · rcases hs i (by omega) a1 a2 a3 a4 a5 a6 hI (mt_lp6 F n) with ⟨b1, b2, b3, b4, b5, b6, hb, e9⟩ | h9
      · rw [e9]; exact ih (i + 1) b1 b2 b3 b4 b5 b6 (by omega) (by omega) hb
      · exact h9
theorem mt_lz6 {A1 A2 A3 A4 A5 A6 R : Type} {F : (A1 → A2 → A3 → A4 → A5 → A6 → Option R) → A1 → A2 → A3 → A4 → A5 → A6 → Option R} {P : Option R → Prop} (I : Nat → A1 → A2 → A3 → A4 → A5 → A6 → Prop) (e : Nat) (he : e < 1100) (hs : ∀ i, i < e → ∀ (a1 : A1) (a2 : A2) (a3 : A3) (a4 : A4) (a5 : A5) (a6 : A6), I i a1 a2 a3 a4 a5 a6 → ∀ k : A1 → A2 → A3 → A4 → A5 → A6 → Option R, (∃ (b1 : A1) (b2 : A2) (b3 : A3) (b4 : A4) (b5 : A5) (b6 : A6), I (i + 1) b1 b2 b3 b4 b5 b6 ∧ F k a1 a2 a3 a4 a5 a6 = k b1 b2 b3 b4 b5 b6) ∨ P (F k a1 a2 a3 a4 a5 a6)) (hx : ∀ (a1 : A1) (a2 : A2) (a3 : A3) (a4 : A4) (a5 : A5) (a6 : A6), I e a1 a2 a3 a4 a5 a6 → ∀ k : A1 → A2 → A3 → A4 → A5 → A6 → Option R, P (F k a1 a2 a3 a4 a5 a6)) {a1 : A1} {a2 : A2} {a3 : A3} {a4 : A4} {a5 : A5} {a6 : A6} (h0 : I 0 a1 a2 a3 a4 a5 a6) : P (mt_lp6 F mt_FU a1 a2 a3 a4 a5 a6) := mt_lpE6 I e hs hx mt_FU 0 a1 a2 a3 a4 a5 a6 (Nat.zero_le _) he h0
theorem mt_lpE7 {A1 A2 A3 A4 A5 A6 A7 R : Type} {F : (A1 → A2 → A3 → A4 → A5 → A6 → A7 → Option R) → A1 → A2 → A3 → A4 → A5 → A6 → A7 → Option R} {P : Option R → Prop} (I : Nat → A1 → A2 → A3 → A4 → A5 → A6 → A7 → Prop) (e : Nat) (hs : ∀ i, i < e → ∀ (a1 : A1) (a2 : A2) (a3 : A3) (a4 : A4) (a5 : A5) (a6 : A6) (a7 : A7), I i a1 a2 a3 a4 a5 a6 a7 → ∀ k : A1 → A2 → A3 → A4 → A5 → A6 → A7 → Option R, (∃ (b1 : A1) (b2 : A2) (b3 : A3) (b4 : A4) (b5 : A5) (b6 : A6) (b7 : A7), I (i + 1) b1 b2 b3 b4 b5 b6 b7 ∧ F k a1 a2 a3 a4 a5 a6 a7 = k b1 b2 b3 b4 b5 b6 b7) ∨ P (F k a1 a2 a3 a4 a5 a6 a7)) (hx : ∀ (a1 : A1) (a2 : A2) (a3 : A3) (a4 : A4) (a5 : A5) (a6 : A6) (a7 : A7), I e a1 a2 a3 a4 a5 a6 a7 → ∀ k : A1 → A2 → A3 → A4 → A5 → A6 → A7 → Option R, P (F k a1 a2 a3 a4 a5 a6 a7)) : ∀ (n i : Nat) (a1 : A1) (a2 : A2) (a3 : A3) (a4 : A4) (a5 : A5) (a6 : A6) (a7 : A7), i ≤ e → e < n + i → I i a1 a2 a3 a4 a5 a6 a7 → P (mt_lp7 F n a1 a2 a3 a4 a5 a6 a7) := by
  intro n
  induction n with
  | zero => intro i a1 a2 a3 a4 a5 a6 a7 h1 h2; exact absurd h2 (by omega)
  | succ n ih =>
    intro i a1 a2 a3 a4 a5 a6 a7 h1 h2 hI
    show P (F (mt_lp7 F n) a1 a2 a3 a4 a5 a6 a7)
    by_cases h : i = e
    · subst h; exact hx a1 a2 a3 a4 a5 a6 a7 hI _
    · rcases hs i (by omega) a1 a2 a3 a4 a5 a6 a7 hI (mt_lp7 F n) with ⟨b1, b2, b3, b4, b5, b6, b7, hb, e9⟩ | h9
      · rw [e9]; exact ih (i + 1) b1 b2 b3 b4 b5 b6 b7 (by omega) (by omega) hb
      · exact h9
theorem mt_lz7 {A1 A2 A3 A4 A5 A6 A7 R : Type} {F : (A1 → A2 → A3 → A4 → A5 → A6 → A7 → Option R) → A1 → A2 → A3 → A4 → A5 → A6 → A7 → Option R} {P : Option R → Prop} (I : Nat → A1 → A2 → A3 → A4 → A5 → A6 → A7 → Prop) (e : Nat) (he : e < 1100) (hs : ∀ i, i < e → ∀ (a1 : A1) (a2 : A2) (a3 : A3) (a4 : A4) (a5 : A5) (a6 : A6) (a7 : A7), I i a1 a2 a3 a4 a5 a6 a7 → ∀ k : A1 → A2 → A3 → A4 → A5 → A6 → A7 → Option R, (∃ (b1 : A1) (b2 : A2) (b3 : A3) (b4 : A4) (b5 : A5) (b6 : A6) (b7 : A7), I (i + 1) b1 b2 b3 b4 b5 b6 b7 ∧ F k a1 a2 a3 a4 a5 a6 a7 = k b1 b2 b3 b4 b5 b6 b7) ∨ P (F k a1 a2 a3 a4 a5 a6 a7)) (hx : ∀ (a1 : A1) (a2 : A2) (a3 : A3) (a4 : A4) (a5 : A5) (a6 : A6) (a7 : A7), I e a1 a2 a3 a4 a5 a6 a7 → ∀ k : A1 → A2 → A3 → A4 → A5 → A6 → A7 → Option R, P (F k a1 a2 a3 a4 a5 a6 a7)) {a1 : A1} {a2 : A2} {a3 : A3} {a4 : A4} {a5 : A5} {a6 : A6} {a7 : A7} (h0 : I 0 a1 a2 a3 a4 a5 a6 a7) : P (mt_lp7 F mt_FU a1 a2 a3 a4 a5 a6 a7) := mt_lpE7 I e hs hx mt_FU 0 a1 a2 a3 a4 a5 a6 a7 (Nat.zero_le _) he h0
theorem mt_lpE8 {A1 A2 A3 A4 A5 A6 A7 A8 R : Type} {F : (A1 → A2 → A3 → A4 → A5 → A6 → A7 → A8 → Option R) → A1 → A2 → A3 → A4 → A5 → A6 → A7 → A8 → Option R} {P : Option R → Prop} (I : Nat → A1 → A2 → A3 → A4 → A5 → A6 → A7 → A8 → Prop) (e : Nat) (hs : ∀ i, i < e → ∀ (a1 : A1) (a2 : A2) (a3 : A3) (a4 : A4) (a5 : A5) (a6 : A6) (a7 : A7) (a8 : A8), I i a1 a2 a3 a4 a5 a6 a7 a8 → ∀ k : A1 → A2 → A3 → A4 → A5 → A6 → A7 → A8 → Option R, (∃ (b1 : A1) (b2 : A2) (b3 : A3) (b4 : A4) (b5 : A5) (b6 : A6) (b7 : A7) (b8 : A8), I (i + 1) b1 b2 b3 b4 b5 b6 b7 b8 ∧ F k a1 a2 a3 a4 a5 a6 a7 a8 = k b1 b2 b3 b4 b5 b6 b7 b8) ∨ P (F k a1 a2 a3 a4 a5 a6 a7 a8)) (hx : ∀ (a1 : A1) (a2 : A2) (a3 : A3) (a4 : A4) (a5 : A5) (a6 : A6) (a7 : A7) (a8 : A8), I e a1 a2 a3 a4 a5 a6 a7 a8 → ∀ k : A1 → A2 → A3 → A4 → A5 → A6 → A7 → A8 → Option R, P (F k a1 a2 a3 a4 a5 a6 a7 a8)) : ∀ (n i : Nat) (a1 : A1) (a2 : A2) (a3 : A3) (a4 : A4) (a5 : A5) (a6 : A6) (a7 : A7) (a8 : A8), i ≤ e → e < n + i → I i a1 a2 a3 a4 a5 a6 a7 a8 → P (mt_lp8 F n a1 a2 a3 a4 a5 a6 a7 a8) := by
  intro n
  induction n with
  | zero => intro i a1 a2 a3 a4 a5 a6 a7 a8 h1 h2; exact absurd h2 (by omega)
  | succ n ih =>
    intro i a1 a2 a3 a4 a5 a6 a7 a8 h1 h2 hI
    show P (F (mt_lp8 F n) a1 a2 a3 a4 a5 a6 a7 a8)
    by_cases h : i = e
    · subst h; exact hx a1 a2 a3 a4 a5 a6 a7 a8 hI _
    · rcases hs i (by omega) a1 a2 a3 a4 a5 a6 a7 a8 hI (mt_lp8 F n) with ⟨b1, b2, b3, b4, b5, b6, b7, b8, hb, e9⟩ | h9
      · rw [e9]; exact ih (i + 1) b1 b2 b3 b4 b5 b6 b7 b8 (by omega) (by omega) hb
      · exact h9
theorem mt_lz8 {A1 A2 A3 A4 A5 A6 A7 A8 R : Type} {F : (A1 → A2 → A3 → A4 → A5 → A6 → A7 → A8 → Option R) → A1 → A2 → A3 → A4 → A5 → A6 → A7 → A8 → Option R} {P : Option R → Prop} (I : Nat → A1 → A2 → A3 → A4 → A5 → A6 → A7 → A8 → Prop) (e : Nat) (he : e < 1100) (hs : ∀ i, i < e → ∀ (a1 : A1) (a2 : A2) (a3 : A3) (a4 : A4) (a5 : A5) (a6 : A6) (a7 : A7) (a8 : A8), I i a1 a2 a3 a4 a5 a6 a7 a8 → ∀ k : A1 → A2 → A3 → A4 → A5 → A6 → A7 → A8 → Option R, (∃ (b1 : A1) (b2 : A2) (b3 : A3) (b4 : A4) (b5 : A5) (b6 : A6) (b7 : A7) (b8 : A8), I (i + 1) b1 b2 b3 b4 b5 b6 b7 b8 ∧ F k a1 a2 a3 a4 a5 a6 a7 a8 = k b1 b2 b3 b4 b5 b6 b7 b8) ∨ P (F k a1 a2 a3 a4 a5 a6 a7 a8)) (hx : ∀ (a1 : A1) (a2 : A2) (a3 : A3) (a4 : A4) (a5 : A5) (a6 : A6) (a7 : A7) (a8 : A8), I e a1 a2 a3 a4 a5 a6 a7 a8 → ∀ k : A1 → A2 → A3 → A4 → A5 → A6 → A7 → A8 → Option R, P (F k a1 a2 a3 a4 a5 a6 a7 a8)) {a1 : A1} {a2 : A2} {a3 : A3} {a4 : A4} {a5 : A5} {a6 : A6} {a7 : A7} {a8 : A8} (h0 : I 0 a1 a2 a3 a4 a5 a6 a7 a8) : P (mt_lp8 F mt_FU a1 a2 a3 a4 a5 a6 a7 a8) := mt_lpE8 I e hs hx mt_FU 0 a1 a2 a3 a4 a5 a6 a7 a8 (Nat.zero_le _) he h0
theorem mi_0 : (0 : Int32) = nI 0 := rfl
theorem mi_1 : (1 : Int32) = nI 1 := rfl
theorem mi_2 : (2 : Int32) = nI 2 := rfl
theorem mi_3 : (3 : Int32) = nI 3 := rfl
theorem mi_4 : (4 : Int32) = nI 4 := rfl
theorem mi_5 : (5 : Int32) = nI 5 := rfl
theorem mi_6 : (6 : Int32) = nI 6 := rfl
theorem mi_7 : (7 : Int32) = nI 7 := rfl
theorem mi_8 : (8 : Int32) = nI 8 := rfl
theorem mi_9 : (9 : Int32) = nI 9 := rfl
theorem mi_10 : (10 : Int32) = nI 10 := rfl
theorem mi_11 : (11 : Int32) = nI 11 := rfl
theorem mi_12 : (12 : Int32) = nI 12 := rfl
theorem mi_13 : (13 : Int32) = nI 13 := rfl
theorem mi_14 : (14 : Int32) = nI 14 := rfl
theorem mi_15 : (15 : Int32) = nI 15 := rfl
theorem mi_16 : (16 : Int32) = nI 16 := rfl
theorem mi_17 : (17 : Int32) = nI 17 := rfl
theorem mi_18 : (18 : Int32) = nI 18 := rfl
theorem mi_19 : (19 : Int32) = nI 19 := rfl
theorem mi_20 : (20 : Int32) = nI 20 := rfl
theorem mi_21 : (21 : Int32) = nI 21 := rfl
theorem mi_22 : (22 : Int32) = nI 22 := rfl
theorem mi_23 : (23 : Int32) = nI 23 := rfl
theorem mi_24 : (24 : Int32) = nI 24 := rfl
theorem mi_25 : (25 : Int32) = nI 25 := rfl
theorem mi_26 : (26 : Int32) = nI 26 := rfl
theorem mi_27 : (27 : Int32) = nI 27 := rfl
theorem mi_28 : (28 : Int32) = nI 28 := rfl
theorem mi_29 : (29 : Int32) = nI 29 := rfl
theorem mi_30 : (30 : Int32) = nI 30 := rfl
theorem mi_31 : (31 : Int32) = nI 31 := rfl
theorem mi_32 : (32 : Int32) = nI 32 := rfl
theorem mi_35 : (35 : Int32) = nI 35 := rfl
theorem mi_45 : (45 : Int32) = nI 45 := rfl
theorem mi_48 : (48 : Int32) = nI 48 := rfl
theorem mi_55 : (55 : Int32) = nI 55 := rfl
theorem mi_57 : (57 : Int32) = nI 57 := rfl
theorem mi_59 : (59 : Int32) = nI 59 := rfl
theorem mi_60 : (60 : Int32) = nI 60 := rfl
theorem mi_63 : (63 : Int32) = nI 63 := rfl
theorem mi_65 : (65 : Int32) = nI 65 := rfl
theorem mi_66 : (66 : Int32) = nI 66 := rfl
theorem mi_96 : (96 : Int32) = nI 96 := rfl
theorem mi_97 : (97 : Int32) = nI 97 := rfl
theorem mi_98 : (98 : Int32) = nI 98 := rfl
theorem mi_99 : (99 : Int32) = nI 99 := rfl
theorem mi_100 : (100 : Int32) = nI 100 := rfl
theorem mi_101 : (101 : Int32) = nI 101 := rfl
theorem mi_102 : (102 : Int32) = nI 102 := rfl
theorem mi_103 : (103 : Int32) = nI 103 := rfl
theorem mi_104 : (104 : Int32) = nI 104 := rfl
theorem mi_105 : (105 : Int32) = nI 105 := rfl
theorem mi_106 : (106 : Int32) = nI 106 := rfl
theorem mi_107 : (107 : Int32) = nI 107 := rfl
theorem mi_108 : (108 : Int32) = nI 108 := rfl
theorem mi_109 : (109 : Int32) = nI 109 := rfl
theorem mi_110 : (110 : Int32) = nI 110 := rfl
theorem mi_111 : (111 : Int32) = nI 111 := rfl
theorem mi_112 : (112 : Int32) = nI 112 := rfl
theorem mi_113 : (113 : Int32) = nI 113 := rfl
theorem mi_114 : (114 : Int32) = nI 114 := rfl
theorem mi_115 : (115 : Int32) = nI 115 := rfl
theorem mi_116 : (116 : Int32) = nI 116 := rfl
theorem mi_117 : (117 : Int32) = nI 117 := rfl
theorem mi_118 : (118 : Int32) = nI 118 := rfl
theorem mi_119 : (119 : Int32) = nI 119 := rfl
theorem mi_120 : (120 : Int32) = nI 120 := rfl
theorem mi_127 : (127 : Int32) = nI 127 := rfl
theorem mi_130 : (130 : Int32) = nI 130 := rfl
theorem mi_195 : (195 : Int32) = nI 195 := rfl
theorem mi_255 : (255 : Int32) = nI 255 := rfl
theorem mi_260 : (260 : Int32) = nI 260 := rfl
theorem mi_455 : (455 : Int32) = nI 455 := rfl
theorem mi_650 : (650 : Int32) = nI 650 := rfl
theorem mi_780 : (780 : Int32) = nI 780 := rfl
theorem mi_999 : (999 : Int32) = nI 999 := rfl
theorem mi_1000 : (1000 : Int32) = nI 1000 := rfl
theorem mi_1100 : (1100 : Int32) = nI 1100 := rfl
theorem mc_0 : (0 : Int32).toNatClampNeg = 0 := rfl
theorem mc_1 : (1 : Int32).toNatClampNeg = 1 := rfl
theorem mc_2 : (2 : Int32).toNatClampNeg = 2 := rfl
theorem mc_3 : (3 : Int32).toNatClampNeg = 3 := rfl
theorem mc_4 : (4 : Int32).toNatClampNeg = 4 := rfl
theorem mc_5 : (5 : Int32).toNatClampNeg = 5 := rfl
theorem mc_6 : (6 : Int32).toNatClampNeg = 6 := rfl
theorem mc_7 : (7 : Int32).toNatClampNeg = 7 := rfl
theorem mc_8 : (8 : Int32).toNatClampNeg = 8 := rfl
theorem mc_9 : (9 : Int32).toNatClampNeg = 9 := rfl
theorem mc_10 : (10 : Int32).toNatClampNeg = 10 := rfl
theorem mc_11 : (11 : Int32).toNatClampNeg = 11 := rfl
theorem mc_12 : (12 : Int32).toNatClampNeg = 12 := rfl
theorem mc_13 : (13 : Int32).toNatClampNeg = 13 := rfl
theorem mc_14 : (14 : Int32).toNatClampNeg = 14 := rfl
theorem mc_15 : (15 : Int32).toNatClampNeg = 15 := rfl
theorem mc_16 : (16 : Int32).toNatClampNeg = 16 := rfl
theorem mc_17 : (17 : Int32).toNatClampNeg = 17 := rfl
theorem mc_18 : (18 : Int32).toNatClampNeg = 18 := rfl
theorem mc_19 : (19 : Int32).toNatClampNeg = 19 := rfl
theorem mc_20 : (20 : Int32).toNatClampNeg = 20 := rfl
/-- as mt_lt, mt_b1_some, mt_b2_some, but no rfl rows: a kernel that compares by unfolding would run through a loop's turns -/
theorem mt_ltE {α : Type _} {β : Type _} (a : α) (f : α → β) : mt_lt a f = f a := by cases Classical.em True <;> rfl
theorem mt_b1E {α R : Type} (a : α) (f : α → Option R) : mt_b1 (some a) f = f a := by cases Classical.em True <;> rfl
theorem mt_b2E {α β R : Type} (a : α) (b : β) (f : α → β → Option R) : mt_b2 (some (a, b)) f = f a b := by cases Classical.em True <;> rfl

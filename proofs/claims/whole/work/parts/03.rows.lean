/-! THE PURE FORM: what the program lays of each method (part 04) is written with these; behind each, the row that takes it apart in a walk -/
def mt_lt {α : Sort _} {β : Sort _} (a : α) (f : α → β) : β := f a
def mt_ck {α : Type} (p : Prop) [Decidable p] (k : Option α) : Option α := if p then k else none
def mt_ci {α : Type} (j : Int32) (n : Nat) (k : Option α) : Option α := if j < 0 ∨ n ≤ j.toNatClampNeg then none else k
def mt_b1 {α R : Type} (o : Option α) (f : α → Option R) : Option R := match o with
  | none => none
  | some a => f a
def mt_b2 {α β R : Type} (o : Option (α × β)) (f : α → β → Option R) : Option R := match o with
  | none => none
  | some (a, b) => f a b
theorem mt_b1_some {α R : Type} (a : α) (f : α → Option R) : mt_b1 (some a) f = f a := rfl
theorem mt_b2_some {α β R : Type} (a : α) (b : β) (f : α → β → Option R) : mt_b2 (some (a, b)) f = f a b := rfl
theorem mt_ci_t {α : Type} {j : Int32} {n : Nat} {k : Option α} (h : vp_in j n) : mt_ci j n k = k := if_neg h
theorem mt_ciI {R : Type} {j : Int32} {n : Nat} {o : Option R} {res : R} (h : mt_ci j n o = some res) {X : Prop} (k : vp_in j n → o = some res → X) : X := by
  unfold mt_ci at h
  split at h
  · cases h
  · exact k (by assumption) h
theorem mt_ck_t {α : Type} {p : Prop} [Decidable p] {k : Option α} (h : p) : mt_ck p k = k := if_pos h
def mt_max (x y : Int32) : Int32 := if x < y then y else x
def mt_FU : Nat := 1100
/-- loops: the body takes what goes on with the next turn; n bounds the turns -/
def mt_lp1 {A1 R : Type} (F : (A1 → Option R) → A1 → Option R) : Nat → A1 → Option R
  | 0 => fun _ => none
  | n + 1 => F (mt_lp1 F n)
theorem mt_lpI1 {A1 R : Type} {F : (A1 → Option R) → A1 → Option R} {res : R} {n : Nat} {a1 : A1} (h : mt_lp1 F n a1 = some res) (G : A1 → Prop) (step : ∀ (k : A1 → Option R), (∀ (a1 : A1), k a1 = some res → G a1) → ∀ (a1 : A1), F k a1 = some res → G a1) : G a1 := by
  induction n generalizing a1 with
  | zero => cases h
  | succ n ih => exact step (mt_lp1 F n) (fun a1 h => ih h) a1 h
theorem mt_lpC1 {A1 R : Type} {F : (A1 → Option R) → A1 → Option R} {X : Option R} (st1 : Nat → A1) (e : Nat) (hs : ∀ i, i < e → ∀ k : A1 → Option R, F k (st1 i) = k (st1 (i + 1))) (hx : ∀ k : A1 → Option R, F k (st1 e) = X) : ∀ (n i : Nat), i ≤ e → e < n + i → mt_lp1 F n (st1 i) = X := by
  intro n
  induction n with
  | zero => intro i h1 h2; exact absurd h2 (by omega)
  | succ n ih =>
    intro i h1 h2
    show F (mt_lp1 F n) (st1 i) = X
    by_cases h : i = e
    · subst h; exact hx _
    · rw [hs i (by omega)]
      exact ih (i + 1) (by omega) (by omega)
theorem mt_jn1 {A1 R : Type} {J : A1 → Option R} {K : (A1 → Option R) → Option R} {res : R} (h : mt_lt J K = some res) (G : A1 → Prop) (hJ : ∀ (a1 : A1), J a1 = some res → G a1) {X : Prop} (hK : ∀ j : A1 → Option R, (∀ (a1 : A1), j a1 = some res → G a1) → K j = some res → X) : X := hK J hJ h
def mt_lp2 {A1 A2 R : Type} (F : (A1 → A2 → Option R) → A1 → A2 → Option R) : Nat → A1 → A2 → Option R
  | 0 => fun _ _ => none
  | n + 1 => F (mt_lp2 F n)
theorem mt_lpI2 {A1 A2 R : Type} {F : (A1 → A2 → Option R) → A1 → A2 → Option R} {res : R} {n : Nat} {a1 : A1} {a2 : A2} (h : mt_lp2 F n a1 a2 = some res) (G : A1 → A2 → Prop) (step : ∀ (k : A1 → A2 → Option R), (∀ (a1 : A1) (a2 : A2), k a1 a2 = some res → G a1 a2) → ∀ (a1 : A1) (a2 : A2), F k a1 a2 = some res → G a1 a2) : G a1 a2 := by
  induction n generalizing a1 a2 with
  | zero => cases h
  | succ n ih => exact step (mt_lp2 F n) (fun a1 a2 h => ih h) a1 a2 h
theorem mt_lpC2 {A1 A2 R : Type} {F : (A1 → A2 → Option R) → A1 → A2 → Option R} {X : Option R} (st1 : Nat → A1) (st2 : Nat → A2) (e : Nat) (hs : ∀ i, i < e → ∀ k : A1 → A2 → Option R, F k (st1 i) (st2 i) = k (st1 (i + 1)) (st2 (i + 1))) (hx : ∀ k : A1 → A2 → Option R, F k (st1 e) (st2 e) = X) : ∀ (n i : Nat), i ≤ e → e < n + i → mt_lp2 F n (st1 i) (st2 i) = X := by
  intro n
  induction n with
  | zero => intro i h1 h2; exact absurd h2 (by omega)
  | succ n ih =>
    intro i h1 h2
    show F (mt_lp2 F n) (st1 i) (st2 i) = X
    by_cases h : i = e
    · subst h; exact hx _
    · rw [hs i (by omega)]
      exact ih (i + 1) (by omega) (by omega)
theorem mt_jn2 {A1 A2 R : Type} {J : A1 → A2 → Option R} {K : (A1 → A2 → Option R) → Option R} {res : R} (h : mt_lt J K = some res) (G : A1 → A2 → Prop) (hJ : ∀ (a1 : A1) (a2 : A2), J a1 a2 = some res → G a1 a2) {X : Prop} (hK : ∀ j : A1 → A2 → Option R, (∀ (a1 : A1) (a2 : A2), j a1 a2 = some res → G a1 a2) → K j = some res → X) : X := hK J hJ h
def mt_lp3 {A1 A2 A3 R : Type} (F : (A1 → A2 → A3 → Option R) → A1 → A2 → A3 → Option R) : Nat → A1 → A2 → A3 → Option R
  | 0 => fun _ _ _ => none
  | n + 1 => F (mt_lp3 F n)
theorem mt_lpI3 {A1 A2 A3 R : Type} {F : (A1 → A2 → A3 → Option R) → A1 → A2 → A3 → Option R} {res : R} {n : Nat} {a1 : A1} {a2 : A2} {a3 : A3} (h : mt_lp3 F n a1 a2 a3 = some res) (G : A1 → A2 → A3 → Prop) (step : ∀ (k : A1 → A2 → A3 → Option R), (∀ (a1 : A1) (a2 : A2) (a3 : A3), k a1 a2 a3 = some res → G a1 a2 a3) → ∀ (a1 : A1) (a2 : A2) (a3 : A3), F k a1 a2 a3 = some res → G a1 a2 a3) : G a1 a2 a3 := by
  induction n generalizing a1 a2 a3 with
  | zero => cases h
  | succ n ih => exact step (mt_lp3 F n) (fun a1 a2 a3 h => ih h) a1 a2 a3 h
theorem mt_lpC3 {A1 A2 A3 R : Type} {F : (A1 → A2 → A3 → Option R) → A1 → A2 → A3 → Option R} {X : Option R} (st1 : Nat → A1) (st2 : Nat → A2) (st3 : Nat → A3) (e : Nat) (hs : ∀ i, i < e → ∀ k : A1 → A2 → A3 → Option R, F k (st1 i) (st2 i) (st3 i) = k (st1 (i + 1)) (st2 (i + 1)) (st3 (i + 1))) (hx : ∀ k : A1 → A2 → A3 → Option R, F k (st1 e) (st2 e) (st3 e) = X) : ∀ (n i : Nat), i ≤ e → e < n + i → mt_lp3 F n (st1 i) (st2 i) (st3 i) = X := by
  intro n
  induction n with
  | zero => intro i h1 h2; exact absurd h2 (by omega)
  | succ n ih =>
    intro i h1 h2
    show F (mt_lp3 F n) (st1 i) (st2 i) (st3 i) = X
    by_cases h : i = e
    · subst h; exact hx _
    · rw [hs i (by omega)]
      exact ih (i + 1) (by omega) (by omega)
theorem mt_jn3 {A1 A2 A3 R : Type} {J : A1 → A2 → A3 → Option R} {K : (A1 → A2 → A3 → Option R) → Option R} {res : R} (h : mt_lt J K = some res) (G : A1 → A2 → A3 → Prop) (hJ : ∀ (a1 : A1) (a2 : A2) (a3 : A3), J a1 a2 a3 = some res → G a1 a2 a3) {X : Prop} (hK : ∀ j : A1 → A2 → A3 → Option R, (∀ (a1 : A1) (a2 : A2) (a3 : A3), j a1 a2 a3 = some res → G a1 a2 a3) → K j = some res → X) : X := hK J hJ h
def mt_lp4 {A1 A2 A3 A4 R : Type} (F : (A1 → A2 → A3 → A4 → Option R) → A1 → A2 → A3 → A4 → Option R) : Nat → A1 → A2 → A3 → A4 → Option R
  | 0 => fun _ _ _ _ => none
  | n + 1 => F (mt_lp4 F n)
theorem mt_lpI4 {A1 A2 A3 A4 R : Type} {F : (A1 → A2 → A3 → A4 → Option R) → A1 → A2 → A3 → A4 → Option R} {res : R} {n : Nat} {a1 : A1} {a2 : A2} {a3 : A3} {a4 : A4} (h : mt_lp4 F n a1 a2 a3 a4 = some res) (G : A1 → A2 → A3 → A4 → Prop) (step : ∀ (k : A1 → A2 → A3 → A4 → Option R), (∀ (a1 : A1) (a2 : A2) (a3 : A3) (a4 : A4), k a1 a2 a3 a4 = some res → G a1 a2 a3 a4) → ∀ (a1 : A1) (a2 : A2) (a3 : A3) (a4 : A4), F k a1 a2 a3 a4 = some res → G a1 a2 a3 a4) : G a1 a2 a3 a4 := by
  induction n generalizing a1 a2 a3 a4 with
  | zero => cases h
  | succ n ih => exact step (mt_lp4 F n) (fun a1 a2 a3 a4 h => ih h) a1 a2 a3 a4 h
theorem mt_lpC4 {A1 A2 A3 A4 R : Type} {F : (A1 → A2 → A3 → A4 → Option R) → A1 → A2 → A3 → A4 → Option R} {X : Option R} (st1 : Nat → A1) (st2 : Nat → A2) (st3 : Nat → A3) (st4 : Nat → A4) (e : Nat) (hs : ∀ i, i < e → ∀ k : A1 → A2 → A3 → A4 → Option R, F k (st1 i) (st2 i) (st3 i) (st4 i) = k (st1 (i + 1)) (st2 (i + 1)) (st3 (i + 1)) (st4 (i + 1))) (hx : ∀ k : A1 → A2 → A3 → A4 → Option R, F k (st1 e) (st2 e) (st3 e) (st4 e) = X) : ∀ (n i : Nat), i ≤ e → e < n + i → mt_lp4 F n (st1 i) (st2 i) (st3 i) (st4 i) = X := by
  intro n
  induction n with
  | zero => intro i h1 h2; exact absurd h2 (by omega)
  | succ n ih =>
    intro i h1 h2
    show F (mt_lp4 F n) (st1 i) (st2 i) (st3 i) (st4 i) = X
    by_cases h : i = e
    · subst h; exact hx _
    · rw [hs i (by omega)]
      exact ih (i + 1) (by omega) (by omega)
theorem mt_jn4 {A1 A2 A3 A4 R : Type} {J : A1 → A2 → A3 → A4 → Option R} {K : (A1 → A2 → A3 → A4 → Option R) → Option R} {res : R} (h : mt_lt J K = some res) (G : A1 → A2 → A3 → A4 → Prop) (hJ : ∀ (a1 : A1) (a2 : A2) (a3 : A3) (a4 : A4), J a1 a2 a3 a4 = some res → G a1 a2 a3 a4) {X : Prop} (hK : ∀ j : A1 → A2 → A3 → A4 → Option R, (∀ (a1 : A1) (a2 : A2) (a3 : A3) (a4 : A4), j a1 a2 a3 a4 = some res → G a1 a2 a3 a4) → K j = some res → X) : X := hK J hJ h
def mt_lp5 {A1 A2 A3 A4 A5 R : Type} (F : (A1 → A2 → A3 → A4 → A5 → Option R) → A1 → A2 → A3 → A4 → A5 → Option R) : Nat → A1 → A2 → A3 → A4 → A5 → Option R
  | 0 => fun _ _ _ _ _ => none
  | n + 1 => F (mt_lp5 F n)
theorem mt_lpI5 {A1 A2 A3 A4 A5 R : Type} {F : (A1 → A2 → A3 → A4 → A5 → Option R) → A1 → A2 → A3 → A4 → A5 → Option R} {res : R} {n : Nat} {a1 : A1} {a2 : A2} {a3 : A3} {a4 : A4} {a5 : A5} (h : mt_lp5 F n a1 a2 a3 a4 a5 = some res) (G : A1 → A2 → A3 → A4 → A5 → Prop) (step : ∀ (k : A1 → A2 → A3 → A4 → A5 → Option R), (∀ (a1 : A1) (a2 : A2) (a3 : A3) (a4 : A4) (a5 : A5), k a1 a2 a3 a4 a5 = some res → G a1 a2 a3 a4 a5) → ∀ (a1 : A1) (a2 : A2) (a3 : A3) (a4 : A4) (a5 : A5), F k a1 a2 a3 a4 a5 = some res → G a1 a2 a3 a4 a5) : G a1 a2 a3 a4 a5 := by
  induction n generalizing a1 a2 a3 a4 a5 with
  | zero => cases h
  | succ n ih => exact step (mt_lp5 F n) (fun a1 a2 a3 a4 a5 h => ih h) a1 a2 a3 a4 a5 h
theorem mt_lpC5 {A1 A2 A3 A4 A5 R : Type} {F : (A1 → A2 → A3 → A4 → A5 → Option R) → A1 → A2 → A3 → A4 → A5 → Option R} {X : Option R} (st1 : Nat → A1) (st2 : Nat → A2) (st3 : Nat → A3) (st4 : Nat → A4) (st5 : Nat → A5) (e : Nat) (hs : ∀ i, i < e → ∀ k : A1 → A2 → A3 → A4 → A5 → Option R, F k (st1 i) (st2 i) (st3 i) (st4 i) (st5 i) = k (st1 (i + 1)) (st2 (i + 1)) (st3 (i + 1)) (st4 (i + 1)) (st5 (i + 1))) (hx : ∀ k : A1 → A2 → A3 → A4 → A5 → Option R, F k (st1 e) (st2 e) (st3 e) (st4 e) (st5 e) = X) : ∀ (n i : Nat), i ≤ e → e < n + i → mt_lp5 F n (st1 i) (st2 i) (st3 i) (st4 i) (st5 i) = X := by
  intro n
  induction n with
  | zero => intro i h1 h2; exact absurd h2 (by omega)
  | succ n ih =>
    intro i h1 h2
    show F (mt_lp5 F n) (st1 i) (st2 i) (st3 i) (st4 i) (st5 i) = X
    by_cases h : i = e
    · subst h; exact hx _
    · rw [hs i (by omega)]
      exact ih (i + 1) (by omega) (by omega)
theorem mt_jn5 {A1 A2 A3 A4 A5 R : Type} {J : A1 → A2 → A3 → A4 → A5 → Option R} {K : (A1 → A2 → A3 → A4 → A5 → Option R) → Option R} {res : R} (h : mt_lt J K = some res) (G : A1 → A2 → A3 → A4 → A5 → Prop) (hJ : ∀ (a1 : A1) (a2 : A2) (a3 : A3) (a4 : A4) (a5 : A5), J a1 a2 a3 a4 a5 = some res → G a1 a2 a3 a4 a5) {X : Prop} (hK : ∀ j : A1 → A2 → A3 → A4 → A5 → Option R, (∀ (a1 : A1) (a2 : A2) (a3 : A3) (a4 : A4) (a5 : A5), j a1 a2 a3 a4 a5 = some res → G a1 a2 a3 a4 a5) → K j = some res → X) : X := hK J hJ h
def mt_lp6 {A1 A2 A3 A4 A5 A6 R : Type} (F : (A1 → A2 → A3 → A4 → A5 → A6 → Option R) → A1 → A2 → A3 → A4 → A5 → A6 → Option R) : Nat → A1 → A2 → A3 → A4 → A5 → A6 → Option R
  | 0 => fun _ _ _ _ _ _ => none
  | n + 1 => F (mt_lp6 F n)
theorem mt_lpI6 {A1 A2 A3 A4 A5 A6 R : Type} {F : (A1 → A2 → A3 → A4 → A5 → A6 → Option R) → A1 → A2 → A3 → A4 → A5 → A6 → Option R} {res : R} {n : Nat} {a1 : A1} {a2 : A2} {a3 : A3} {a4 : A4} {a5 : A5} {a6 : A6} (h : mt_lp6 F n a1 a2 a3 a4 a5 a6 = some res) (G : A1 → A2 → A3 → A4 → A5 → A6 → Prop) (step : ∀ (k : A1 → A2 → A3 → A4 → A5 → A6 → Option R), (∀ (a1 : A1) (a2 : A2) (a3 : A3) (a4 : A4) (a5 : A5) (a6 : A6), k a1 a2 a3 a4 a5 a6 = some res → G a1 a2 a3 a4 a5 a6) → ∀ (a1 : A1) (a2 : A2) (a3 : A3) (a4 : A4) (a5 : A5) (a6 : A6), F k a1 a2 a3 a4 a5 a6 = some res → G a1 a2 a3 a4 a5 a6) : G a1 a2 a3 a4 a5 a6 := by
  induction n generalizing a1 a2 a3 a4 a5 a6 with
  | zero => cases h
  | succ n ih => exact step (mt_lp6 F n) (fun a1 a2 a3 a4 a5 a6 h => ih h) a1 a2 a3 a4 a5 a6 h
theorem mt_lpC6 {A1 A2 A3 A4 A5 A6 R : Type} {F : (A1 → A2 → A3 → A4 → A5 → A6 → Option R) → A1 → A2 → A3 → A4 → A5 → A6 → Option R} {X : Option R} (st1 : Nat → A1) (st2 : Nat → A2) (st3 : Nat → A3) (st4 : Nat → A4) (st5 : Nat → A5) (st6 : Nat → A6) (e : Nat) (hs : ∀ i, i < e → ∀ k : A1 → A2 → A3 → A4 → A5 → A6 → Option R, F k (st1 i) (st2 i) (st3 i) (st4 i) (st5 i) (st6 i) = k (st1 (i + 1)) (st2 (i + 1)) (st3 (i + 1)) (st4 (i + 1)) (st5 (i + 1)) (st6 (i + 1))) (hx : ∀ k : A1 → A2 → A3 → A4 → A5 → A6 → Option R, F k (st1 e) (st2 e) (st3 e) (st4 e) (st5 e) (st6 e) = X) : ∀ (n i : Nat), i ≤ e → e < n + i → mt_lp6 F n (st1 i) (st2 i) (st3 i) (st4 i) (st5 i) (st6 i) = X := by
  intro n
  induction n with
  | zero => intro i h1 h2; exact absurd h2 (by omega)
  | succ n ih =>
    intro i h1 h2
    show F (mt_lp6 F n) (st1 i) (st2 i) (st3 i) (st4 i) (st5 i) (st6 i) = X
    by_cases h : i = e
    · subst h; exact hx _
    · rw [hs i (by omega)]
      exact ih (i + 1) (by omega) (by omega)
theorem mt_jn6 {A1 A2 A3 A4 A5 A6 R : Type} {J : A1 → A2 → A3 → A4 → A5 → A6 → Option R} {K : (A1 → A2 → A3 → A4 → A5 → A6 → Option R) → Option R} {res : R} (h : mt_lt J K = some res) (G : A1 → A2 → A3 → A4 → A5 → A6 → Prop) (hJ : ∀ (a1 : A1) (a2 : A2) (a3 : A3) (a4 : A4) (a5 : A5) (a6 : A6), J a1 a2 a3 a4 a5 a6 = some res → G a1 a2 a3 a4 a5 a6) {X : Prop} (hK : ∀ j : A1 → A2 → A3 → A4 → A5 → A6 → Option R, (∀ (a1 : A1) (a2 : A2) (a3 : A3) (a4 : A4) (a5 : A5) (a6 : A6), j a1 a2 a3 a4 a5 a6 = some res → G a1 a2 a3 a4 a5 a6) → K j = some res → X) : X := hK J hJ h
def mt_lp7 {A1 A2 A3 A4 A5 A6 A7 R : Type} (F : (A1 → A2 → A3 → A4 → A5 → A6 → A7 → Option R) → A1 → A2 → A3 → A4 → A5 → A6 → A7 → Option R) : Nat → A1 → A2 → A3 → A4 → A5 → A6 → A7 → Option R
  | 0 => fun _ _ _ _ _ _ _ => none
  | n + 1 => F (mt_lp7 F n)
theorem mt_lpI7 {A1 A2 A3 A4 A5 A6 A7 R : Type} {F : (A1 → A2 → A3 → A4 → A5 → A6 → A7 → Option R) → A1 → A2 → A3 → A4 → A5 → A6 → A7 → Option R} {res : R} {n : Nat} {a1 : A1} {a2 : A2} {a3 : A3} {a4 : A4} {a5 : A5} {a6 : A6} {a7 : A7} (h : mt_lp7 F n a1 a2 a3 a4 a5 a6 a7 = some res) (G : A1 → A2 → A3 → A4 → A5 → A6 → A7 → Prop) (step : ∀ (k : A1 → A2 → A3 → A4 → A5 → A6 → A7 → Option R), (∀ (a1 : A1) (a2 : A2) (a3 : A3) (a4 : A4) (a5 : A5) (a6 : A6) (a7 : A7), k a1 a2 a3 a4 a5 a6 a7 = some res → G a1 a2 a3 a4 a5 a6 a7) → ∀ (a1 : A1) (a2 : A2) (a3 : A3) (a4 : A4) (a5 : A5) (a6 : A6) (a7 : A7), F k a1 a2 a3 a4 a5 a6 a7 = some res → G a1 a2 a3 a4 a5 a6 a7) : G a1 a2 a3 a4 a5 a6 a7 := by
  induction n generalizing a1 a2 a3 a4 a5 a6 a7 with
  | zero => cases h
  | succ n ih => exact step (mt_lp7 F n) (fun a1 a2 a3 a4 a5 a6 a7 h => ih h) a1 a2 a3 a4 a5 a6 a7 h
theorem mt_lpC7 {A1 A2 A3 A4 A5 A6 A7 R : Type} {F : (A1 → A2 → A3 → A4 → A5 → A6 → A7 → Option R) → A1 → A2 → A3 → A4 → A5 → A6 → A7 → Option R} {X : Option R} (st1 : Nat → A1) (st2 : Nat → A2) (st3 : Nat → A3) (st4 : Nat → A4) (st5 : Nat → A5) (st6 : Nat → A6) (st7 : Nat → A7) (e : Nat) (hs : ∀ i, i < e → ∀ k : A1 → A2 → A3 → A4 → A5 → A6 → A7 → Option R, F k (st1 i) (st2 i) (st3 i) (st4 i) (st5 i) (st6 i) (st7 i) = k (st1 (i + 1)) (st2 (i + 1)) (st3 (i + 1)) (st4 (i + 1)) (st5 (i + 1)) (st6 (i + 1)) (st7 (i + 1))) (hx : ∀ k : A1 → A2 → A3 → A4 → A5 → A6 → A7 → Option R, F k (st1 e) (st2 e) (st3 e) (st4 e) (st5 e) (st6 e) (st7 e) = X) : ∀ (n i : Nat), i ≤ e → e < n + i → mt_lp7 F n (st1 i) (st2 i) (st3 i) (st4 i) (st5 i) (st6 i) (st7 i) = X := by
  intro n
  induction n with
  | zero => intro i h1 h2; exact absurd h2 (by omega)
  | succ n ih =>
    intro i h1 h2
    show F (mt_lp7 F n) (st1 i) (st2 i) (st3 i) (st4 i) (st5 i) (st6 i) (st7 i) = X
    by_cases h : i = e
    · subst h; exact hx _
    · rw [hs i (by omega)]
      exact ih (i + 1) (by omega) (by omega)
theorem mt_jn7 {A1 A2 A3 A4 A5 A6 A7 R : Type} {J : A1 → A2 → A3 → A4 → A5 → A6 → A7 → Option R} {K : (A1 → A2 → A3 → A4 → A5 → A6 → A7 → Option R) → Option R} {res : R} (h : mt_lt J K = some res) (G : A1 → A2 → A3 → A4 → A5 → A6 → A7 → Prop) (hJ : ∀ (a1 : A1) (a2 : A2) (a3 : A3) (a4 : A4) (a5 : A5) (a6 : A6) (a7 : A7), J a1 a2 a3 a4 a5 a6 a7 = some res → G a1 a2 a3 a4 a5 a6 a7) {X : Prop} (hK : ∀ j : A1 → A2 → A3 → A4 → A5 → A6 → A7 → Option R, (∀ (a1 : A1) (a2 : A2) (a3 : A3) (a4 : A4) (a5 : A5) (a6 : A6) (a7 : A7), j a1 a2 a3 a4 a5 a6 a7 = some res → G a1 a2 a3 a4 a5 a6 a7) → K j = some res → X) : X := hK J hJ h
def mt_lp8 {A1 A2 A3 A4 A5 A6 A7 A8 R : Type} (F : (A1 → A2 → A3 → A4 → A5 → A6 → A7 → A8 → Option R) → A1 → A2 → A3 → A4 → A5 → A6 → A7 → A8 → Option R) : Nat → A1 → A2 → A3 → A4 → A5 → A6 → A7 → A8 → Option R
  | 0 => fun _ _ _ _ _ _ _ _ => none
  | n + 1 => F (mt_lp8 F n)
theorem mt_lpI8 {A1 A2 A3 A4 A5 A6 A7 A8 R : Type} {F : (A1 → A2 → A3 → A4 → A5 → A6 → A7 → A8 → Option R) → A1 → A2 → A3 → A4 → A5 → A6 → A7 → A8 → Option R} {res : R} {n : Nat} {a1 : A1} {a2 : A2} {a3 : A3} {a4 : A4} {a5 : A5} {a6 : A6} {a7 : A7} {a8 : A8} (h : mt_lp8 F n a1 a2 a3 a4 a5 a6 a7 a8 = some res) (G : A1 → A2 → A3 → A4 → A5 → A6 → A7 → A8 → Prop) (step : ∀ (k : A1 → A2 → A3 → A4 → A5 → A6 → A7 → A8 → Option R), (∀ (a1 : A1) (a2 : A2) (a3 : A3) (a4 : A4) (a5 : A5) (a6 : A6) (a7 : A7) (a8 : A8), k a1 a2 a3 a4 a5 a6 a7 a8 = some res → G a1 a2 a3 a4 a5 a6 a7 a8) → ∀ (a1 : A1) (a2 : A2) (a3 : A3) (a4 : A4) (a5 : A5) (a6 : A6) (a7 : A7) (a8 : A8), F k a1 a2 a3 a4 a5 a6 a7 a8 = some res → G a1 a2 a3 a4 a5 a6 a7 a8) : G a1 a2 a3 a4 a5 a6 a7 a8 := by
  induction n generalizing a1 a2 a3 a4 a5 a6 a7 a8 with
  | zero => cases h
  | succ n ih => exact step (mt_lp8 F n) (fun a1 a2 a3 a4 a5 a6 a7 a8 h => ih h) a1 a2 a3 a4 a5 a6 a7 a8 h
theorem mt_lpC8 {A1 A2 A3 A4 A5 A6 A7 A8 R : Type} {F : (A1 → A2 → A3 → A4 → A5 → A6 → A7 → A8 → Option R) → A1 → A2 → A3 → A4 → A5 → A6 → A7 → A8 → Option R} {X : Option R} (st1 : Nat → A1) (st2 : Nat → A2) (st3 : Nat → A3) (st4 : Nat → A4) (st5 : Nat → A5) (st6 : Nat → A6) (st7 : Nat → A7) (st8 : Nat → A8) (e : Nat) (hs : ∀ i, i < e → ∀ k : A1 → A2 → A3 → A4 → A5 → A6 → A7 → A8 → Option R, F k (st1 i) (st2 i) (st3 i) (st4 i) (st5 i) (st6 i) (st7 i) (st8 i) = k (st1 (i + 1)) (st2 (i + 1)) (st3 (i + 1)) (st4 (i + 1)) (st5 (i + 1)) (st6 (i + 1)) (st7 (i + 1)) (st8 (i + 1))) (hx : ∀ k : A1 → A2 → A3 → A4 → A5 → A6 → A7 → A8 → Option R, F k (st1 e) (st2 e) (st3 e) (st4 e) (st5 e) (st6 e) (st7 e) (st8 e) = X) : ∀ (n i : Nat), i ≤ e → e < n + i → mt_lp8 F n (st1 i) (st2 i) (st3 i) (st4 i) (st5 i) (st6 i) (st7 i) (st8 i) = X := by
  intro n
  induction n with
  | zero => intro i h1 h2; exact absurd h2 (by omega)
  | succ n ih =>
    intro i h1 h2
    show F (mt_lp8 F n) (st1 i) (st2 i) (st3 i) (st4 i) (st5 i) (st6 i) (st7 i) (st8 i) = X
    by_cases h : i = e
    · subst h; exact hx _
    · rw [hs i (by omega)]
      exact ih (i + 1) (by omega) (by omega)
theorem mt_jn8 {A1 A2 A3 A4 A5 A6 A7 A8 R : Type} {J : A1 → A2 → A3 → A4 → A5 → A6 → A7 → A8 → Option R} {K : (A1 → A2 → A3 → A4 → A5 → A6 → A7 → A8 → Option R) → Option R} {res : R} (h : mt_lt J K = some res) (G : A1 → A2 → A3 → A4 → A5 → A6 → A7 → A8 → Prop) (hJ : ∀ (a1 : A1) (a2 : A2) (a3 : A3) (a4 : A4) (a5 : A5) (a6 : A6) (a7 : A7) (a8 : A8), J a1 a2 a3 a4 a5 a6 a7 a8 = some res → G a1 a2 a3 a4 a5 a6 a7 a8) {X : Prop} (hK : ∀ j : A1 → A2 → A3 → A4 → A5 → A6 → A7 → A8 → Option R, (∀ (a1 : A1) (a2 : A2) (a3 : A3) (a4 : A4) (a5 : A5) (a6 : A6) (a7 : A7) (a8 : A8), j a1 a2 a3 a4 a5 a6 a7 a8 = some res → G a1 a2 a3 a4 a5 a6 a7 a8) → K j = some res → X) : X := hK J hJ h
theorem mt_jn0 {R : Type} {J : Option R} {K : Option R → Option R} {res : R} (h : mt_lt J K = some res) (G : Prop) (hJ : J = some res → G) {X : Prop} (hK : ∀ j : Option R, (j = some res → G) → K j = some res → X) : X := hK J hJ h
theorem mt_ltI {α R : Type} {a : α} {f : α → Option R} {res : R} (h : mt_lt a f = some res) {X : Prop} (k : ∀ x, x = a → f x = some res → X) : X := k a rfl h
theorem mt_ckI {R : Type} {p : Prop} [Decidable p] {o : Option R} {res : R} (h : mt_ck p o = some res) {X : Prop} (k : p → o = some res → X) : X := by
  unfold mt_ck at h
  split at h
  · exact k (by assumption) h
  · cases h
theorem mt_b1I {α R : Type} {o : Option α} {f : α → Option R} {res : R} (h : mt_b1 o f = some res) {X : Prop} (k : ∀ a, o = some a → f a = some res → X) : X := by
  cases o with
  | none => cases h
  | some a => exact k a rfl h
theorem mt_b2I {α β R : Type} {o : Option (α × β)} {f : α → β → Option R} {res : R} (h : mt_b2 o f = some res) {X : Prop} (k : ∀ a b, o = some (a, b) → f a b = some res → X) : X := by
  cases o with
  | none => cases h
  | some q => exact k q.1 q.2 rfl h
theorem mt_ifT {R : Type} {C : Prop} [Decidable C] {A B : Option R} {res : R} (c : C) (h : (if C then A else B) = some res) : A = some res := by rw [if_pos c] at h; exact h
theorem mt_ifF {R : Type} {C : Prop} [Decidable C] {A B : Option R} {res : R} (c : ¬ C) (h : (if C then A else B) = some res) : B = some res := by rw [if_neg c] at h; exact h
theorem mt_so1 {α : Type} {a b : α} (h : some a = some b) : b = a := (Option.some.inj h).symm
theorem mt_so2 {α β : Type} {a b : α} {c d : β} (h : some (a, c) = some (b, d)) : b = a ∧ d = c := ⟨congrArg Prod.fst (Option.some.inj h).symm, congrArg Prod.snd (Option.some.inj h).symm⟩
theorem mt_so3 {α β γ : Type} {a b : α} {c d : β} {e f : γ} (h : some (a, c, e) = some (b, d, f)) : b = a ∧ d = c ∧ f = e := ⟨congrArg Prod.fst (Option.some.inj h).symm, congrArg (fun q => q.2.1) (Option.some.inj h).symm, congrArg (fun q => q.2.2) (Option.some.inj h).symm⟩
theorem mt_nb {v : Int32} (h : v = 0 ∨ v = 1) : narrow .boolean (.int v) = .int v ∧ fits .boolean (.int v) = true := by
  rcases h with rfl | rfl <;> exact ⟨rfl, rfl⟩
theorem mt_tabOut {x : Int32} (lo hi : Int) (hlo : -2147483648 ≤ lo) (hhi : hi < 2147483648) (h : ∀ n : Nat, (n : Int) ≤ hi - lo → x ≠ Int32.ofInt (lo + n)) : x.toInt < lo ∨ hi < x.toInt := by
  by_cases h1 : x.toInt < lo
  · exact Or.inl h1
  · by_cases h2 : hi < x.toInt
    · exact Or.inr h2
    · exfalso
      refine h (x.toInt - lo).toNat (by omega) ?_
      rw [show lo + ((x.toInt - lo).toNat : Int) = x.toInt by omega]
      exact (Int32.ofInt_toInt x).symm
section MTR
variable {p : Program} {l : Launch} {e : Env} {R : Room} {s : State} {m : MethodId} {args : Array Value} {below : List Frame} {meth : Method} {c : Code} {H : Heap} {locs : List Loc} {cells slots : Nat} {Q : State → Prop}
variable {cc : ByteArray} {pc : Nat} {ls : Array Slot} {rest : List Value} {E : mt_E} {M M1 : mt_M} {u u1 : mt_U}
theorem mt_lti {R0 : Type} {a : Int32} {f : Int32 → Option R0} {res : R0} (h : mt_lt a f = some res) (k : ∀ x, x = a → f x = some res → W p l e R s m args below meth c H locs cells slots Q (F0 m pc ls (.int x :: rest))) : W p l e R s m args below meth c H locs cells slots Q (F0 m pc ls (.int a :: rest)) := k a rfl h
theorem mt_ltl {R0 : Type} {a : Int64} {f : Int64 → Option R0} {res : R0} (h : mt_lt a f = some res) (k : ∀ x, x = a → f x = some res → W p l e R s m args below meth c H locs cells slots Q (F0 m pc ls (.long x :: rest))) : W p l e R s m args below meth c H locs cells slots Q (F0 m pc ls (.long a :: rest)) := k a rfl h
theorem mt_ltr {R0 : Type} {a : Nat} {f : Nat → Option R0} {res : R0} (h : mt_lt a f = some res) (k : ∀ x, x = a → f x = some res → W p l e R s m args below meth c H locs cells slots Q (F0 m pc ls (.ref (E.2.1 x) :: rest))) : W p l e R s m args below meth c H locs cells slots Q (F0 m pc ls (.ref (E.2.1 a) :: rest)) := k a rfl h
theorem mt_iret (hx : p.tables.exec = Jvm.exec) (hb : c.code = cc) (hr : meth.sig.returnType = some .int) (hI : mt_I E s) (hH : mt_H E M u H) (hS : va_S (mt_A E) s.heap H locs) {v : Int32} (hlocks : meth.locks = false) (hdg : decode cc pc = .ok (.ireturn, 1)) : W p l e R s m args below meth c H locs cells slots (MQ below (mt_Qi E v M u) args s cells slots (mt_A E)) (F0 m pc ls [.int v]) :=
  W.iret hx hb hr (fun t ht hW => ⟨⟨v, (), rfl, rfl, hI.warm hW, by rw [ht]; exact hH⟩, hS.F ht⟩) hS.2.2 hdg hlocks
theorem mt_zret (hx : p.tables.exec = Jvm.exec) (hb : c.code = cc) (hr : meth.sig.returnType = some .boolean) (hI : mt_I E s) (hH : mt_H E M u H) (hS : va_S (mt_A E) s.heap H locs) {v : Int32} (hv : v = 0 ∨ v = 1) (hlocks : meth.locks = false) (hdg : decode cc pc = .ok (.ireturn, 1)) : W p l e R s m args below meth c H locs cells slots (MQ below (mt_Qi E v M u) args s cells slots (mt_A E)) (F0 m pc ls [.int v]) :=
  W.zret hx hb hr (mt_nb hv).1 (fun t ht hW => ⟨⟨v, (), rfl, rfl, hI.warm hW, by rw [ht]; exact hH⟩, hS.F ht⟩) hS.2.2 hdg hlocks
theorem mt_lret (hx : p.tables.exec = Jvm.exec) (hb : c.code = cc) (hr : meth.sig.returnType = some .long) (hI : mt_I E s) (hH : mt_H E M u H) (hS : va_S (mt_A E) s.heap H locs) {v : Int64} (hlocks : meth.locks = false) (hdg : decode cc pc = .ok (.lreturn, 1)) : W p l e R s m args below meth c H locs cells slots (MQ below (mt_Ql E v M u) args s cells slots (mt_A E)) (F0 m pc ls [.long v]) :=
  W.lret hx hb hr (fun t ht hW => ⟨⟨v, (), rfl, rfl, hI.warm hW, by rw [ht]; exact hH⟩, hS.F ht⟩) hS.2.2 hdg hlocks
theorem mt_vret (hx : p.tables.exec = Jvm.exec) (hb : c.code = cc) (hr : meth.sig.returnType = none) (hI : mt_I E s) (hH : mt_H E M u H) (hS : va_S (mt_A E) s.heap H locs) (hlocks : meth.locks = false) (hdg : decode cc pc = .ok (.return_, 1)) : W p l e R s m args below meth c H locs cells slots (MQ below (mt_Qv E M u) args s cells slots (mt_A E)) (F0 m pc ls []) :=
  W.vret hx hb hr (fun t ht hW => ⟨⟨(), rfl, trivial, hI.warm hW, by rw [ht]; exact hH⟩, hS.F ht⟩) hS.2.2 hdg hlocks
theorem mt_aret (hx : p.tables.exec = Jvm.exec) (hb : c.code = cc) {C : String} (hr : meth.sig.returnType = some (.object C)) (hI : mt_I E s) (hH : mt_H E M u H) (hS : va_S (mt_A E) s.heap H locs) {a : Nat} (hlocks : meth.locks = false) (hdg : decode cc pc = .ok (.areturn, 1)) : W p l e R s m args below meth c H locs cells slots (MQ below (mt_Qr E (E.2.1 a) M u) args s cells slots (mt_A E)) (F0 m pc ls [.ref (E.2.1 a)]) :=
  W.aret hx hb hr (Or.inl ⟨_, rfl⟩) (Or.inr ⟨_, rfl⟩) (fun t ht hW => ⟨⟨(), E.2.1 a, rfl, trivial, rfl, hI.warm hW, by rw [ht]; exact hH⟩, hS.F ht⟩) hS.2.2 hdg hlocks
variable {y x0 : MethodName} {bytes : ByteArray} {maxL nL n index : Nat} {ret : Option FieldType} {ws : List Cond} {rm : Room} {Qc : Array Value → State → Outcome → State → Prop} {Ts : List Cond} {own C owner : String} {As st : List Value} {T : u_T} {N : Nat}
theorem mt_runV (S : CallFix p m c cc nL s args Ts own) (hI : mt_I E s) (hH : mt_H E M u H) {i ci : Nat} {fs : List (Option Nat)} (hM : Met l y ws rm (mt_P E (.ref (E.2.1 i) :: As) M u) Qc 0 0 (mt_A E)) (cw : CallW R s args own C index y bytes maxL ret ws rm 0 0 n) (hT : mt_T i = (1, ci, fs)) (hc : vwCl[ci]? = some (C, T, N)) (hn : As.length = n) (hl : ls.size = nL) (hst : st = As.reverse ++ .ref (E.2.1 i) :: rest) (hW : (rest.map fun v => v.category).sum ≤ 8) (hdg : decode cc pc = .ok (.invokevirtual index, 3)) (hf : cells ≤ R.cells ∧ slots ≤ R.slots) :
    va_Run p l e R s m args below meth c H locs cells slots 0 0 (F0 m pc ls st) rest (Qc (Value.ref (E.2.1 i) :: As).toArray) (mt_A E) := by
  have he := mt_ws_get E M u (mt_T_lt hT (by omega))
  rw [hT] at he
  exact va_runV S hM cw ⟨mt_blind _ _ _ _, va_recv hI.1 hH.1 hc he, fun U hU hW => ⟨rfl, hI.warm hW, by rw [hU]; exact hH⟩⟩ rfl hn hl hst (lv_room hW) hdg hf
theorem mt_runU (S : CallFix p m c cc nL s args Ts own) (hI : mt_I E s) (hH : mt_H E M u H) {i ci : Nat} {fs : List (Option Nat)} (hM : Met l y ws rm (mt_P E (.ref (E.2.1 i) :: As) M u) Qc 0 0 (mt_A E)) (cw : va_CU R s args own C owner index x0 y bytes maxL ret ws rm 0 0 n) (hT : mt_T i = (1, ci, fs)) (hc : vwCl[ci]? = some (C, T, N)) (hn : As.length = n) (hl : ls.size = nL) (hst : st = As.reverse ++ .ref (E.2.1 i) :: rest) (hW : (rest.map fun v => v.category).sum ≤ 8) (hdg : decode cc pc = .ok (.invokevirtual index, 3)) (hf : cells ≤ R.cells ∧ slots ≤ R.slots) :
    va_Run p l e R s m args below meth c H locs cells slots 0 0 (F0 m pc ls st) rest (Qc (Value.ref (E.2.1 i) :: As).toArray) (mt_A E) := by
  have he := mt_ws_get E M u (mt_T_lt hT (by omega))
  rw [hT] at he
  exact va_runU S hM cw ⟨mt_blind _ _ _ _, va_recv hI.1 hH.1 hc he, fun U hU hW => ⟨rfl, hI.warm hW, by rw [hU]; exact hH⟩⟩ rfl hn hl hst (lv_room hW) hdg hf
theorem mt_runSU (S : CallFix p m c cc nL s args Ts own) (hI : mt_I E s) (hH : mt_H E M u H) {i ci : Nat} {fs : List (Option Nat)} (hM : Met l y ws rm (mt_P E (.ref (E.2.1 i) :: As) M u) Qc 0 0 (mt_A E)) (cw : va_CS R s args own index y bytes maxL ret ws rm 0 0 n) (hT : mt_T i = (1, ci, fs)) (hc : vwCl[ci]? = some (C, T, N)) (hn : As.length = n) (hl : ls.size = nL) (hst : st = As.reverse ++ .ref (E.2.1 i) :: rest) (hW : (rest.map fun v => v.category).sum ≤ 8) (hdg : decode cc pc = .ok (.invokespecial index, 3)) (hf : cells ≤ R.cells ∧ slots ≤ R.slots) :
    va_Run p l e R s m args below meth c H locs cells slots 0 0 (F0 m pc ls st) rest (Qc (Value.ref (E.2.1 i) :: As).toArray) (mt_A E) := by
  have he := mt_ws_get E M u (mt_T_lt hT (by omega))
  rw [hT] at he
  exact va_runSU (hI.1.1 ci _ hc).2 S hM cw ⟨mt_blind _ _ _ _, va_recv hI.1 hH.1 hc he, fun U hU hW => ⟨rfl, hI.warm hW, by rw [hU]; exact hH⟩⟩ rfl hn hl hst (lv_room hW) hdg hf
theorem mt_runS (S : CallFix p m c cc nL s args Ts own) (hI : mt_I E s) (hH : mt_H E M u H) (hM : Met l y ws rm (mt_P E As M u) Qc 0 0 (mt_A E)) (cw : CallB R s args own index y bytes maxL ret ws rm 0 0 n ∧ (Cond.static y).before args s = true) (hn : As.length = n) (hl : ls.size = nL) (hst : st = As.reverse ++ rest) (hW : (rest.map fun v => v.category).sum ≤ 8) (hdg : decode cc pc = .ok (.invokestatic index, 3)) (hf : cells ≤ R.cells ∧ slots ≤ R.slots) :
    va_Run p l e R s m args below meth c H locs cells slots 0 0 (F0 m pc ls st) rest (Qc As.toArray) (mt_A E) :=
  va_runS S hM cw ⟨mt_blind _ _ _ _, fun U hU hW => ⟨rfl, hI.warm hW, by rw [hU]; exact hH⟩⟩ rfl hn hl hst (lv_room hW) hdg hf
theorem mt_runSN (S : CallFix p m c cc nL s args Ts own) (hI : mt_I E s) (hH : mt_H E M u H) (hM : Met l y ws rm (mt_P E As M u) Qc 0 0 (mt_A E)) (cw : va_CN R s args own index y RX11 bytes maxL ret ws rm 0 0 n ∧ (Cond.static y).before args s = true ∧ True) (hn : As.length = n) (hl : ls.size = nL) (hst : st = As.reverse ++ rest) (hW : (rest.map fun v => v.category).sum ≤ 8) (hdg : decode cc pc = .ok (.invokestatic index, 3)) (hf : cells ≤ R.cells ∧ slots ≤ R.slots) :
    va_Run p l e R s m args below meth c H locs cells slots 0 0 (F0 m pc ls st) rest (Qc As.toArray) (mt_A E) :=
  va_runSN S hM cw ⟨mt_blind _ _ _ _, fun U hU hW => ⟨rfl, hI.warm hW, by rw [hU]; exact hH⟩⟩ rfl hn hl hst (lv_room hW) hdg hf
theorem mt_goi {st0 : List Value} {a : Array Value} {r : Int32} (hr : va_Run p l e R s m args below meth c H locs cells slots 0 0 (F0 m pc ls st0) rest (mt_Qi E r M1 u1 a) (mt_A E)) (hS : va_S (mt_A E) s.heap H locs) (kk : ∀ (H1 : Heap) (locs1 : List Loc), mt_H E M1 u1 H1 → va_S (mt_A E) s.heap H1 locs1 → W p l e R s m args below meth c H1 locs1 cells slots Q (F0 m (pc + 3) ls (.int r :: rest))) : W p l e R s m args below meth c H locs cells slots Q (F0 m pc ls st0) :=
  va_calli hr hS (fun q _ h => h) (fun q h => h) (fun r' _ t H1 locs1 ht _ hp hB _ _ hS1 => by subst hp; exact kk H1 locs1 (ht ▸ hB.2) hS1)
theorem mt_gol {st0 : List Value} {a : Array Value} {r : Int64} (hr : va_Run p l e R s m args below meth c H locs cells slots 0 0 (F0 m pc ls st0) rest (mt_Ql E r M1 u1 a) (mt_A E)) (hS : va_S (mt_A E) s.heap H locs) (kk : ∀ (H1 : Heap) (locs1 : List Loc), mt_H E M1 u1 H1 → va_S (mt_A E) s.heap H1 locs1 → W p l e R s m args below meth c H1 locs1 cells slots Q (F0 m (pc + 3) ls (.long r :: rest))) : W p l e R s m args below meth c H locs cells slots Q (F0 m pc ls st0) :=
  va_calll hr hS (fun q _ h => h) (fun q h => h) (fun r' _ t H1 locs1 ht _ hp hB _ _ hS1 => by subst hp; exact kk H1 locs1 (ht ▸ hB.2) hS1)
theorem mt_gov {st0 : List Value} {a : Array Value} (hr : va_Run p l e R s m args below meth c H locs cells slots 0 0 (F0 m pc ls st0) rest (mt_Qv E M1 u1 a) (mt_A E)) (hS : va_S (mt_A E) s.heap H locs) (kk : ∀ (H1 : Heap) (locs1 : List Loc), mt_H E M1 u1 H1 → va_S (mt_A E) s.heap H1 locs1 → W p l e R s m args below meth c H1 locs1 cells slots Q (F0 m (pc + 3) ls rest)) : W p l e R s m args below meth c H locs cells slots Q (F0 m pc ls st0) :=
  va_callv hr hS (fun q _ h => h) (fun q h => h) (fun _ t H1 locs1 ht _ hp hB _ _ hS1 => kk H1 locs1 (ht ▸ hB.2) hS1)
theorem mt_gor {st0 : List Value} {a : Array Value} {r : Nat} (hr : va_Run p l e R s m args below meth c H locs cells slots 0 0 (F0 m pc ls st0) rest (mt_Qr E r M1 u1 a) (mt_A E)) (hS : va_S (mt_A E) s.heap H locs) (kk : ∀ (H1 : Heap) (locs1 : List Loc), mt_H E M1 u1 H1 → va_S (mt_A E) s.heap H1 locs1 → W p l e R s m args below meth c H1 locs1 cells slots Q (F0 m (pc + 3) ls (.ref r :: rest))) : W p l e R s m args below meth c H locs cells slots Q (F0 m pc ls st0) :=
  va_callr hr hS (fun q _ h => h) (fun q h => h) (fun _ ra t H1 locs1 ht _ hp hB _ _ hS1 => by obtain ⟨rfl, hB⟩ := hB; exact kk H1 locs1 (ht ▸ hB.2) hS1)
theorem mt_copy (hx : p.tables.exec = Jvm.exec) (hb : c.code = cc) (hml : c.maxLocals = ls.size) (hown : s.vm.findClass own = some m.cls) (hlink : (Cond.methodLink own index arraycopyName).before args s = true) (hnat : (Cond.native arraycopyName).before args s = true) (hstat : (Cond.static arraycopyName).before args s = true) (hini : (Cond.initialized "java/lang/System").before args s = true) (hI : mt_I E s) (hH : mt_H E M u H) (hS : va_S (mt_A E) s.heap H locs) {i j n0 : Nat} (hi : mt_T i = (0, n0, [])) (hj : mt_T j = (0, n0, [])) {k : Int32} (hk : k.toNatClampNeg = n0) (hk0 : ¬ k < 0)
    (hframes : 1 ≤ R.frames) (hlocals : (rest.map fun v => v.category).sum + (nativeFrameWords "java/lang/System" "arraycopy" 5 + 11) ≤ R.locals) (hdg : decode cc pc = .ok (.invokestatic index, 3))
    (kk : ∀ (H1 : Heap) (locs1 : List Loc), mt_H E (mt_mu M j (va_cpy (M i) (M j) 0 0 n0)) u H1 → va_S (mt_A E) s.heap H1 locs1 → W p l e R s m args below meth c H1 locs1 cells slots Q (F0 m (pc + 3) ls rest)) : W p l e R s m args below meth c H locs cells slots Q (F0 m pc ls (.int k :: .int 0 :: .ref (E.2.1 j) :: .int 0 :: .ref (E.2.1 i) :: rest)) := by
  have h0 := mt_ws_get E M u (mt_T_lt hi (by omega))
  have h1 := mt_ws_get E M u (mt_T_lt hj (by omega))
  have h9 := mt_ws_set E M u (i := j) (va_cpy (M i) (M j) 0 0 n0)
  rw [hi] at h0
  rw [hj] at h1 h9
  refine va_copyi hx hb hml hown hlink hnat hstat hini hI.1 hH.1 hH.2 hS i j 0 0 h0 h1 rfl rfl rfl (by decide) (by decide) hk0 (by rw [hk]; exact Nat.le_of_eq (Nat.zero_add _)) (by rw [hk]; exact Nat.le_of_eq (Nat.zero_add _)) (fun _ _ => rfl) hframes hlocals hdg fun H1 locs1 hP hD hS1 => ?_
  rw [hk] at hP hD
  exact kk H1 locs1 ⟨h9 ▸ hP, h9 ▸ hD⟩ hS1
theorem mt_callSI {T : State} (X : Stand p l e R s m args below meth c T locs cells slots) (hexec : p.tables.exec = Jvm.exec) {own : String} {index : Nat} {x y : MethodName} {bytes : ByteArray} {maxL : Nat} {ret : Option FieldType}
    (hown : s.vm.findClass own = some m.cls) (hlink : (Cond.methodLink own index x).before args s = true) (hsame : (Cond.sameMethod x.cls y.cls x.name x.desc).before args s = true) (hsup : (Cond.superclass own x.cls).before args s = true) (hsup2 : (Cond.superclass x.cls y.cls).before args s = true) (hxn : x.name = y.name) (hxd : x.desc = y.desc)
    (hinst : (Cond.instanceMethod y).before args s = true) (hcode : (Cond.code y bytes maxL ret).before args s = true) (hno : y.name ≠ "<init>")
    {W : Nat} {Pre : Pt → Array Value → Prop} {Post : Pt → Array Value → Option Value → Pt → Prop} (hK : Back l R p e below s args y 3 W Pre Post)
    {b : Addr} {cellB : Cell} {kB : Class} (hcell : T.heap[b]? = some cellB) (hobj : cellB.vm.isStatics = false) (hkB : s.vm.classes[cellB.cls]? = some kB)
    {g : JFrame} (hg : g.method = m) (hsize : g.locals.size = c.maxLocals) {argsL rest : List Value} (hlen : ∀ sig, parseMethodDescriptor y.desc = some sig → argsL.length = sig.parameters.length)
    (hstack : g.stack = argsL.reverse ++ .ref b :: rest) (hW : 2 * g.monitorRoom + (rest.map fun v => v.category).sum ≤ W) (hdg : decode c.code g.pc = .ok (.invokespecial index, 3))
    (hpre : ∀ vm₁, s.WarmedH vm₁ → Pre ⟨T.setVm vm₁, locs, cells, slots⟩ (Value.ref b :: argsL).toArray) :
    ∃ (v : Option Value) (vm₁ : Vm) (B : Pt), s.WarmedH vm₁ ∧ Stand p l e R s m args below meth c B.U B.locs B.cells B.slots ∧ Post ⟨T.setVm vm₁, locs, cells, slots⟩ (Value.ref b :: argsL).toArray v B ∧
      ∀ target, Steps p.tables e below (B.U.setTop { g with pc := g.pc + 3, stack := v.toList ++ rest }) target → Steps p.tables e below (T.setTop g) target := by
  obtain ⟨mk, methM, hnamed, hmethM, hstM, habM⟩ := Cond.instanceMethod_spec hinst
  obtain ⟨methM', cM, hmethM', -, -, -, -, -, -, hsigM⟩ := Cond.code_spec hnamed hcode
  cases hmethM.symm.trans hmethM'
  obtain ⟨ps, dk, kp, hps, hdk, hkp, hsuper, -, -, hnid⟩ := Cond.superclass_spec hown hsup
  obtain ⟨p2, dk2, kp2, hp2, hdk2, hkp2, hsuper2, -, -, -⟩ := Cond.superclass_spec hps hsup2
  have hn : s.methodNamed? ⟨y.cls, x.name, x.desc⟩ = some mk := by rw [hxn, hxd]; exact hnamed
  have hpm : p2 = mk.cls := Option.some.inj (hp2.symm.trans (findClass_of_methodNamed hnamed))
  have hsub : s.vm.isSubclass ps mk.cls = true := by
    have hlt : ps < s.vm.classes.size := (Array.getElem?_eq_some_iff.mp hdk2).1
    obtain ⟨n, hn⟩ : ∃ n, s.vm.classes.size = n + 1 := Nat.exists_eq_succ_of_ne_zero (Nat.pos_iff_ne_zero.mp (Nat.lt_of_le_of_lt (Nat.zero_le _) hlt))
    unfold Vm.isSubclass
    rw [hn]
    simp [Vm.isSubclassAux, hdk2, hsuper2, hpm]
  obtain ⟨vm₁, X₁, hstep₁⟩ := X.invokespecialUp hexec hown hlink hsame hn hmethM hstM habM (by rw [hxn]; exact hno) hdk hnid hps hsuper hsub (a := b) (cell := cellB) hcell
    (fun z h => by rw [h] at hobj; cases hobj) hkB (g := g) hg (argsL := argsL) (rest := rest) (hlen _ hsigM) hstack hdg
  obtain ⟨v, B, X', hpost, hsteps⟩ := hK m meth c ⟨T.setVm vm₁, locs, cells, slots⟩ { g with stack := rest } (.invokespecial index) mk (Value.ref b :: argsL).toArray X₁ hg hsize hdg hW (X₁.named hnamed) (hpre vm₁ X₁.warmed)
  exact ⟨v, vm₁, B, X₁.warmed, X', hpost, fun target h => hstep₁ _ (by rw [doInvoke_state]; exact hsteps.trans h)⟩
/-- what super.priceAt asks in a class under the class that inherits it -/
theorem mt_siK (hI : mt_I E s) (own : String) (h1 : Cond.methodLink own 7 ⟨RX5, "priceAt", "(I)I"⟩ ∈ mt_nX) (h2 : Cond.superclass own RX5 ∈ mt_nX) {rm : Room} (hR : rm.frames + 1 ≤ R.frames ∧ 8 + (2 + 11) + rm.locals ≤ R.locals) :
    (rm.frames + 1 ≤ R.frames ∧ 8 + (2 + 11) + rm.locals ≤ R.locals) ∧ (∀ w ∈ wsX6_priceAt, ∀ (a' : Array Value) (U : State), s.WarmedH U.vm → w.before a' U = true) ∧ (Cond.methodLink own 7 ⟨RX5, "priceAt", "(I)I"⟩).before args s = true ∧ (Cond.sameMethod RX5 RX6 "priceAt" "(I)I").before args s = true ∧ (Cond.superclass own RX5).before args s = true ∧ (Cond.superclass RX5 RX6).before args s = true ∧ (Cond.instanceMethod yX6_priceAt).before args s = true ∧ (Cond.initialized RX6).before args s = true ∧ (Cond.code yX6_priceAt cX6_priceAt 2 (some .int)).before args s = true := by
  have key : ∀ w ∈ mt_nX, ∀ a' : Array Value, w.before a' s = true := fun w hw a' => va_Nw.use ((Bool.and_eq_true _ _).mp (mt_nX_good w hw)).1 (hI.2.2.2 w hw)
  have m6 : Cond.code yX6_priceAt cX6_priceAt 2 (some .int) ∈ mt_nX := List.mem_of_getElem? (i := 8) rfl
  refine ⟨hR, ?_, key _ h1 _, key _ (List.mem_of_getElem? (i := 2) rfl) _, key _ h2 _, key _ (List.mem_of_getElem? (i := 5) rfl) _, key _ (List.mem_of_getElem? (i := 6) rfl) _, key _ (List.mem_of_getElem? (i := 7) rfl) _, key _ m6 _⟩
  intro w hw a' U hW
  have hw2 : w = Cond.code yX6_priceAt cX6_priceAt 2 (some .int) := by
    simpa [wsX6_priceAt] using hw
  subst hw2
  exact word_at hW (Or.inl (mt_nX_good _ m6)) (key _ m6 #[])
theorem mt_runSI (S : CallFix p m c cc nL s args Ts own) (hI : mt_I E s) (hH : mt_H E M u H) {i ci : Nat} {fs : List (Option Nat)} (hM : Met l yX6_priceAt wsX6_priceAt rm (mt_P E (.ref (E.2.1 i) :: As) M u) Qc 0 0 (mt_A E))
    (cw : (rm.frames + 1 ≤ R.frames ∧ 8 + (2 + 11) + rm.locals ≤ R.locals) ∧ (∀ w ∈ wsX6_priceAt, ∀ (a' : Array Value) (U : State), s.WarmedH U.vm → w.before a' U = true) ∧ (Cond.methodLink own 7 ⟨RX5, "priceAt", "(I)I"⟩).before args s = true ∧ (Cond.sameMethod RX5 RX6 "priceAt" "(I)I").before args s = true ∧ (Cond.superclass own RX5).before args s = true ∧ (Cond.superclass RX5 RX6).before args s = true ∧ (Cond.instanceMethod yX6_priceAt).before args s = true ∧ (Cond.initialized RX6).before args s = true ∧ (Cond.code yX6_priceAt cX6_priceAt 2 (some .int)).before args s = true) (hrm : rm.cells = 0 ∧ rm.slots = 0)
    (hT : mt_T i = (1, ci, fs)) (hc : vwCl[ci]? = some (C, T, N)) (hn : As.length = 1) (hl : ls.size = nL) (hst : st = As.reverse ++ .ref (E.2.1 i) :: rest) (hW : (rest.map fun v => v.category).sum ≤ 8) (hdg : decode cc pc = .ok (.invokespecial 7, 3)) (hf : cells ≤ R.cells ∧ slots ≤ R.slots) :
    va_Run p l e R s m args below meth c H locs cells slots 0 0 (F0 m pc ls st) rest (Qc (Value.ref (E.2.1 i) :: As).toArray) (mt_A E) := by
  have he := mt_ws_get E M u (mt_T_lt hT (by omega))
  rw [hT] at he
  obtain ⟨⟨hfr, hlo⟩, hws, hlink, hsame, hsup, hsup2, hinst, hini, hcode⟩ := cw
  have hK : Back l R p e below s args yX6_priceAt 3 8 (PreOf R 0 0 (mt_P E (.ref (E.2.1 i) :: As) M u)) (PostOf Qc 0 0 (mt_A E)) := back_of (bytes := cX6_priceAt) (maxL := 2) (ret := some .int) hM (mt_blind _ _ _ _) hrm.1 hrm.2 hfr hlo hws (by unfold wsX6_priceAt; exact List.mem_cons_self) (fun a' U hW => word_at hW (Or.inl (by first | rfl | simp [Cond.onTables, Cond.keeps, Cond.steady])) hini)
  obtain ⟨hx, hb, hml, ho, -⟩ := S
  obtain ⟨cellB, hcB, hoB, hclB⟩ := va_recv hI.1 hH.1 hc he
  obtain ⟨hfc, kC, hkC, -⟩ := (hI.1.1 ci _ hc).2
  have hcls : cellB.cls = E.1.1 ci := Option.some.inj (hclB.symm.trans hfc)
  intro T0 hT0 X
  obtain ⟨v, vm₁, ⟨U', l2, c2, s2⟩, hW₁, X', ⟨g', mk, t, L, e1, e2, hq, h1, hL, h2, h3⟩, st9⟩ := mt_callSI X hx (x := ⟨RX5, "priceAt", "(I)I"⟩) (y := yX6_priceAt) (bytes := cX6_priceAt) (maxL := 2) (ret := some .int) ho hlink hsame hsup hsup2 rfl rfl hinst hcode (by decide) hK (by rw [hT0]; exact hcB) hoB (by rw [hcls]; exact hkC) rfl (hl.trans hml.symm) (argsL := As) (rest := rest) (fun sig h => hn.trans (by cases h; rfl)) hst (lv_room hW) (by rw [hb]; exact hdg)
    (fun vm₁ hW₁ => ⟨hf.1, hf.2, rfl, hI.warm hW₁, (by rw [show (T0.setVm vm₁).heap = H from hT0]; exact hH)⟩)
  dsimp only [Pt.U, Pt.locs, Pt.cells, Pt.slots] at X' e1 e2 h1 h2 h3 st9
  subst h1; subst h2; subst h3
  exact ⟨v, (T0.setVm vm₁).calling g' mk (Value.ref (E.2.1 i) :: As).toArray, t, U', L, hT0, X', hL, e1, e2, hq, st9⟩
end MTR

/-! THE SPEC: what both sides say, in natural numbers. A house A: rows 0 kind, 1 figure, 2 use, 3 stock, 4 the clocks of list 0, 5 of list 1, 6: 0 things, 1 now, 2 days, 3 rule, 4 pence, 5 lacked, 6 spoilt, 7 what list 0 wants (bits), 8 list 1 -/
abbrev hs_A : Type := Nat → Nat → Nat
def hs_up (A : hs_A) (i k v : Nat) : hs_A := fun j x => if j = i then (if x = k then v else A i x) else A j x
theorem hs_up_s (A : hs_A) (i k v : Nat) : hs_up A i k v i k = v := by simp [hs_up]
theorem hs_up_r (A : hs_A) {i k v j : Nat} (h : j ≠ i) : hs_up A i k v j = A j := by funext x; simp [hs_up, h]
theorem hs_up_n (A : hs_A) {i k v x : Nat} (h : x ≠ k) : hs_up A i k v i x = A i x := by simp [hs_up, h]
def sp_pr (k f : Nat) : Nat := if k = 1 then (f + 2) / 2 else if k = 3 then 5 * (f + 2) else if k = 4 then (f + 2) / 2 + 3 else if k = 5 then f + 1 else f + 2
def sp_pk (k : Nat) : Nat := if k = 1 then 2 else if k = 2 then 3 else if k = 4 then 2 else if k = 5 then 6 else 1
def sp_lo (k f s : Nat) : Nat := if k = 1 then (s - f) / 2 else if k = 4 then s - f else 0
def sp_hm (k p : Nat) : Nat := if k = 0 then p else if k = 2 then 0 else if k = 3 then p / 2 else if k = 5 then 1 else 2 * p
theorem sp_lo_le (k f s : Nat) : sp_lo k f s ≤ s := by
  unfold sp_lo
  split
  · omega
  · split <;> omega
theorem sp_pr_le : ∀ k, k < 6 → ∀ f, f < 10 → sp_pr k f ≤ 55 ∧ 1 ≤ sp_pr k f := by decide +kernel
theorem sp_pk_le : ∀ k, k < 6 → sp_pk k ≤ 6 ∧ 1 ≤ sp_pk k := by decide +kernel
def sp_sm : Nat → (Nat → Nat) → Nat
  | 0, _ => 0
  | i + 1, f => sp_sm i f + f i
theorem sp_sm_congr {n : Nat} {f g : Nat → Nat} (h : ∀ i, i < n → f i = g i) : sp_sm n f = sp_sm n g := by
  induction n with
  | zero => rfl
  | succ n ih => simp only [sp_sm]; rw [ih (fun i hi => h i (by omega)), h n (by omega)]
theorem sp_sm_add (n : Nat) (f g : Nat → Nat) : sp_sm n (fun i => f i + g i) = sp_sm n f + sp_sm n g := by
  induction n with
  | zero => rfl
  | succ n ih => simp only [sp_sm]; omega
theorem sp_sm_le {n b : Nat} {f : Nat → Nat} (h : ∀ i, i < n → f i ≤ b) : sp_sm n f ≤ b * n := by
  induction n with
  | zero => exact Nat.zero_le _
  | succ n ih =>
    have h1 := ih (fun i hi => h i (by omega))
    have h2 := h n (by omega)
    simp only [sp_sm, Nat.mul_succ]
    omega
theorem sp_sm_0 {n : Nat} {f : Nat → Nat} : sp_sm n f = 0 ↔ ∀ i, i < n → f i = 0 := by
  induction n with
  | zero => exact ⟨fun _ i hi => absurd hi (by omega), fun _ => rfl⟩
  | succ n ih =>
    simp only [sp_sm]
    constructor
    · intro h i hi
      by_cases q : i = n
      · subst q; omega
      · exact ih.mp (by omega) i (by omega)
    · intro h
      have h1 := ih.mpr (fun i hi => h i (by omega))
      have h2 := h n (by omega)
      omega
/-- a day of one thing: its stock behind it -/
def sp_s1 (k f u s : Nat) : Nat := (s - u) - sp_lo k f (s - u)
def hs_dT (A : hs_A) (t : Nat) : hs_A := hs_up (hs_up (hs_up A 3 t (sp_s1 (A 0 t) (A 1 t) (A 2 t) (A 3 t))) 6 5 (A 6 5 + (A 2 t - A 3 t))) 6 6 (A 6 6 + sp_lo (A 0 t) (A 1 t) (A 3 t - A 2 t))
def hs_dP (A : hs_A) : Nat → hs_A
  | 0 => A
  | i + 1 => hs_dT (hs_dP A i) i
def hs_day (A : hs_A) : hs_A := hs_up (hs_dP A (A 6 0)) 6 2 (A 6 2 + 1)
def hs_days (A : hs_A) : Nat → hs_A
  | 0 => A
  | d + 1 => hs_day (hs_days A d)
/-- well made -/
def hs_ok (A : hs_A) : Prop := A 6 0 ≤ 7 ∧ ∀ t, t < A 6 0 → A 0 t ≤ 5 ∧ A 1 t ≤ 9 ∧ A 2 t ≤ 9 ∧ A 3 t ≤ 99
theorem hs_ok_up3 {A : hs_A} (h : hs_ok A) (t : Nat) {v : Nat} (hv : v ≤ 99) : hs_ok (hs_up A 3 t v) := by
  refine ⟨by simpa [hs_up] using h.1, fun x hx => ?_⟩
  have hx : x < A 6 0 := by simpa [hs_up] using hx
  obtain ⟨a, b, c, d⟩ := h.2 x hx
  refine ⟨by simpa [hs_up] using a, by simpa [hs_up] using b, by simpa [hs_up] using c, ?_⟩
  simp only [hs_up, if_true]
  split
  · exact hv
  · exact d
theorem hs_ok_up2 {A : hs_A} (h : hs_ok A) (t : Nat) {v : Nat} (hv : v ≤ 9) : hs_ok (hs_up A 2 t v) := by
  refine ⟨by simpa [hs_up] using h.1, fun x hx => ?_⟩
  have hx : x < A 6 0 := by simpa [hs_up] using hx
  obtain ⟨a, b, c, d⟩ := h.2 x hx
  refine ⟨by simpa [hs_up] using a, by simpa [hs_up] using b, ?_, by simpa [hs_up] using d⟩
  simp only [hs_up, if_true]
  split
  · exact hv
  · exact c
theorem hs_ok_up6 {A : hs_A} (h : hs_ok A) {k v : Nat} (hk : k ≠ 0) : hs_ok (hs_up A 6 k v) := by
  have e : hs_up A 6 k v 6 0 = A 6 0 := by simp [hs_up, Ne.symm hk]
  refine ⟨by rw [e]; exact h.1, fun x hx => ?_⟩
  rw [e] at hx
  simpa [hs_up] using h.2 x hx
theorem sp_s1_le {k f u s b : Nat} (h : s ≤ b) : sp_s1 k f u s ≤ b := by unfold sp_s1; omega
theorem hs_ok_dT {A : hs_A} (h : hs_ok A) {t : Nat} (ht : t < A 6 0) : hs_ok (hs_dT A t) :=
  hs_ok_up6 (hs_ok_up6 (hs_ok_up3 h t (sp_s1_le (h.2 t ht).2.2.2)) (by decide)) (by decide)
theorem hs_dT_6 (A : hs_A) (t : Nat) {k : Nat} (h5 : k ≠ 5) (h6 : k ≠ 6) : hs_dT A t 6 k = A 6 k := by simp [hs_dT, hs_up, h5, h6]
theorem hs_dP_6 (A : hs_A) (i : Nat) {k : Nat} (h5 : k ≠ 5) (h6 : k ≠ 6) : hs_dP A i 6 k = A 6 k := by
  induction i with
  | zero => rfl
  | succ i ih => simp only [hs_dP]; rw [hs_dT_6 _ _ h5 h6, ih]
theorem hs_dP_r (A : hs_A) (i : Nat) {j : Nat} (h3 : j ≠ 3) (h6 : j ≠ 6) : hs_dP A i j = A j := by
  induction i with
  | zero => rfl
  | succ i ih => simp only [hs_dP, hs_dT]; rw [hs_up_r _ h6, hs_up_r _ h6, hs_up_r _ h3, ih]
theorem hs_dP_3 (A : hs_A) (i t : Nat) : hs_dP A i 3 t = if t < i then sp_s1 (A 0 t) (A 1 t) (A 2 t) (A 3 t) else A 3 t := by
  induction i with
  | zero => simp [hs_dP]
  | succ i ih =>
    simp only [hs_dP, hs_dT]
    rw [hs_up_r _ (by decide), hs_up_r _ (by decide)]
    by_cases h : t = i
    · subst h
      rw [hs_up_s, hs_dP_r _ _ (by decide) (by decide), hs_dP_r _ _ (by decide) (by decide), hs_dP_r _ _ (by decide) (by decide), ih, if_neg (by omega), if_pos (by omega)]
    · rw [hs_up_n _ h, ih]
      by_cases h2 : t < i
      · rw [if_pos h2, if_pos (by omega)]
      · rw [if_neg h2, if_neg (by omega)]
theorem hs_dP_65 (A : hs_A) (i : Nat) : hs_dP A i 6 5 = A 6 5 + sp_sm i (fun t => A 2 t - A 3 t) := by
  induction i with
  | zero => rfl
  | succ i ih =>
    simp only [hs_dP, hs_dT, sp_sm]
    rw [hs_up_n _ (by decide), hs_up_s, ih, hs_dP_r _ _ (by decide) (by decide), hs_dP_3, if_neg (by omega)]
    omega
theorem hs_dP_66 (A : hs_A) (i : Nat) : hs_dP A i 6 6 = A 6 6 + sp_sm i (fun t => sp_lo (A 0 t) (A 1 t) (A 3 t - A 2 t)) := by
  induction i with
  | zero => rfl
  | succ i ih =>
    simp only [hs_dP, hs_dT, sp_sm]
    rw [hs_up_s, ih, hs_dP_r _ _ (j := 0) (by decide) (by decide), hs_dP_r _ _ (j := 1) (by decide) (by decide), hs_dP_r _ _ (j := 2) (by decide) (by decide), hs_dP_3, if_neg (by omega)]
    omega
theorem hs_ok_dP {A : hs_A} (h : hs_ok A) (i : Nat) (hi : i ≤ A 6 0) : hs_ok (hs_dP A i) := by
  induction i with
  | zero => exact h
  | succ i ih => exact hs_ok_dT (ih (by omega)) (by rw [hs_dP_6 _ _ (by decide) (by decide)]; omega)
theorem hs_ok_day {A : hs_A} (h : hs_ok A) : hs_ok (hs_day A) := hs_ok_up6 (hs_ok_dP h _ (Nat.le_refl _)) (by decide)
theorem hs_day_n (A : hs_A) {k : Nat} (h2 : k ≠ 2) (h5 : k ≠ 5) (h6 : k ≠ 6) : hs_day A 6 k = A 6 k := by
  unfold hs_day; rw [hs_up_n _ h2, hs_dP_6 _ _ h5 h6]
theorem hs_day_r (A : hs_A) {j : Nat} (h3 : j ≠ 3) (h6 : j ≠ 6) : hs_day A j = A j := by
  unfold hs_day; rw [hs_up_r _ h6, hs_dP_r _ _ h3 h6]
theorem hs_ok_days {A : hs_A} (h : hs_ok A) (d : Nat) : hs_ok (hs_days A d) := by
  induction d with
  | zero => exact h
  | succ d ih => exact hs_ok_day ih
theorem hs_days_n (A : hs_A) (d : Nat) {k : Nat} (h2 : k ≠ 2) (h5 : k ≠ 5) (h6 : k ≠ 6) : hs_days A d 6 k = A 6 k := by
  induction d with
  | zero => rfl
  | succ d ih => simp only [hs_days]; rw [hs_day_n _ h2 h5 h6, ih]
theorem hs_days_r (A : hs_A) (d : Nat) {j : Nat} (h3 : j ≠ 3) (h6 : j ≠ 6) : hs_days A d j = A j := by
  induction d with
  | zero => rfl
  | succ d ih => simp only [hs_days]; rw [hs_day_r _ h3 h6, ih]
theorem hs_days_d (A : hs_A) (d : Nat) : hs_days A d 6 2 = A 6 2 + d := by
  induction d with
  | zero => rfl
  | succ d ih => simp only [hs_days, hs_day]; rw [hs_up_s, ih]; omega
/-- one thing alone, d days on: stock, what lacked, what was lost -/
def sp_sN (k f u : Nat) : Nat → Nat → Nat
  | 0, s => s
  | d + 1, s => sp_s1 k f u (sp_sN k f u d s)
def sp_lN (k f u : Nat) : Nat → Nat → Nat
  | 0, _ => 0
  | d + 1, s => sp_lN k f u d s + (u - sp_sN k f u d s)
def sp_qN (k f u : Nat) : Nat → Nat → Nat
  | 0, _ => 0
  | d + 1, s => sp_qN k f u d s + sp_lo k f (sp_sN k f u d s - u)
theorem sp_sN_le (k f u d : Nat) {s b : Nat} (h : s ≤ b) : sp_sN k f u d s ≤ b := by
  induction d with
  | zero => exact h
  | succ d ih => exact sp_s1_le ih
theorem sp_lN_le (k f u d s : Nat) : sp_lN k f u d s ≤ u * d := by
  induction d with
  | zero => exact Nat.zero_le _
  | succ d ih => simp only [sp_lN, Nat.mul_succ]; omega
theorem sp_qN_le (k f u d : Nat) {s b : Nat} (h : s ≤ b) : sp_qN k f u d s ≤ b * d := by
  induction d with
  | zero => exact Nat.zero_le _
  | succ d ih =>
    have h1 := sp_sN_le k f u d h
    have h2 := sp_lo_le k f (sp_sN k f u d s - u)
    simp only [sp_qN, Nat.mul_succ]; omega
theorem sp_lN_mono (k f u : Nat) {d e : Nat} (h : d ≤ e) (s : Nat) : sp_lN k f u d s ≤ sp_lN k f u e s := by
  induction e with
  | zero => rw [show d = 0 by omega]; exact Nat.le_refl _
  | succ e ih =>
    by_cases q : d = e + 1
    · rw [q]; exact Nat.le_refl _
    · exact Nat.le_trans (ih (by omega)) (Nat.le_add_right _ _)
theorem hs_days_3 (A : hs_A) (d t : Nat) : hs_days A d 3 t = if t < A 6 0 then sp_sN (A 0 t) (A 1 t) (A 2 t) d (A 3 t) else A 3 t := by
  induction d with
  | zero => simp [hs_days, sp_sN]
  | succ d ih =>
    simp only [hs_days, hs_day]
    rw [hs_up_r _ (by decide), hs_dP_3, hs_days_n _ _ (by decide) (by decide) (by decide), ih, hs_days_r _ _ (by decide) (by decide), hs_days_r _ _ (by decide) (by decide), hs_days_r _ _ (by decide) (by decide)]
    by_cases h : t < A 6 0
    · simp only [if_pos h, sp_sN]
    · simp only [if_neg h]
theorem hs_days_65 (A : hs_A) (d : Nat) : hs_days A d 6 5 = A 6 5 + sp_sm (A 6 0) (fun t => sp_lN (A 0 t) (A 1 t) (A 2 t) d (A 3 t)) := by
  induction d with
  | zero =>
    have h : sp_sm (A 6 0) (fun t => sp_lN (A 0 t) (A 1 t) (A 2 t) 0 (A 3 t)) = 0 := sp_sm_0.mpr (fun _ _ => rfl)
    rw [h]; rfl
  | succ d ih =>
    simp only [hs_days, hs_day]
    rw [hs_up_n _ (by decide), hs_dP_65, ih, hs_days_n _ _ (by decide) (by decide) (by decide), hs_days_r _ _ (by decide) (by decide)]
    simp only [sp_lN]
    rw [sp_sm_add, Nat.add_assoc]
    congr 2
    exact sp_sm_congr (fun i hi => by rw [hs_days_3, if_pos hi])
theorem hs_days_66 (A : hs_A) (d : Nat) : hs_days A d 6 6 = A 6 6 + sp_sm (A 6 0) (fun t => sp_qN (A 0 t) (A 1 t) (A 2 t) d (A 3 t)) := by
  induction d with
  | zero =>
    have h : sp_sm (A 6 0) (fun t => sp_qN (A 0 t) (A 1 t) (A 2 t) 0 (A 3 t)) = 0 := sp_sm_0.mpr (fun _ _ => rfl)
    rw [h]; rfl
  | succ d ih =>
    simp only [hs_days, hs_day]
    rw [hs_up_n _ (by decide), hs_dP_66, ih, hs_days_n _ _ (by decide) (by decide) (by decide), hs_days_r _ _ (j := 0) (by decide) (by decide), hs_days_r _ _ (j := 1) (by decide) (by decide), hs_days_r _ _ (j := 2) (by decide) (by decide)]
    simp only [sp_qN]
    rw [sp_sm_add, Nat.add_assoc]
    congr 2
    exact sp_sm_congr (fun i hi => by rw [hs_days_3, if_pos hi])
/-- so many packs of a thing are bought -/
def hs_buy (A : hs_A) (t k : Nat) : hs_A := hs_up (hs_up A 3 t (min 99 (A 3 t + k * sp_pk (A 0 t)))) 6 4 (A 6 4 + k * sp_pr (A 0 t) (A 1 t))
theorem hs_ok_buy {A : hs_A} (h : hs_ok A) (t k : Nat) : hs_ok (hs_buy A t k) := hs_ok_up6 (hs_ok_up3 h t (Nat.min_le_left _ _)) (by decide)
theorem hs_buy_n (A : hs_A) (t k : Nat) {j : Nat} (h : j ≠ 4) : hs_buy A t k 6 j = A 6 j := by simp [hs_buy, hs_up, h]
theorem hs_buy_r (A : hs_A) (t k : Nat) {j : Nat} (h3 : j ≠ 3) (h6 : j ≠ 6) : hs_buy A t k j = A j := by
  unfold hs_buy; rw [hs_up_r _ h6, hs_up_r _ h3]

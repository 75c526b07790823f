/-! HOUSES TOLD IN LETTERS: where a text goes wrong; the class -/
def tx (L : Nat) (T : Nat → Nat) (k : Nat) : Int32 := if k < L then nI (T k) else -1
def td (L : Nat) (T : Nat → Nat) (k : Nat) : Option Nat := if k < L ∧ 48 ≤ T k ∧ T k ≤ 57 then some (T k - 48) else none
def tn (c : Nat) : Option Nat := if c = 106 then some 0 else if c = 100 ∨ c = 114 then some 1 else if c = 107 ∨ c = 119 ∨ c = 120 then some 2 else if c = 115 ∨ c = 116 then some 3 else none
def tp (L : Nat) (T : Nat → Nat) (k : Nat) : Option Nat := if k < L then tn (T k) else none
def tq (L : Nat) (T : Nat → Nat) (k d : Nat) : Option Nat := match sp_find (fun i => (td L T (k + 1 + i)).isNone) d with
  | some i => some (k + 1 + i)
  | none => if k + 1 + d < L ∧ T (k + 1 + d) = 59 then none else some (k + 1 + d)
/-- the first wrong letter of the statement at k -/
def ts (L : Nat) (T : Nat → Nat) (k : Nat) : Option Nat := match tp L T k with
  | none => some k
  | some d => tq L T k d
/-- -1 for none -/
def sp_om : Option Nat → Int32
  | some d => nI d
  | none => -1
theorem tn_le {c d : Nat} (h : tn c = some d) : d ≤ 3 := by
  unfold tn at h
  split at h
  · have := Option.some.inj h; omega
  · split at h
    · have := Option.some.inj h; omega
    · split at h
      · have := Option.some.inj h; omega
      · split at h
        · have := Option.some.inj h; omega
        · cases h
theorem tp_le {L : Nat} {T : Nat → Nat} {k d : Nat} (h : tp L T k = some d) : d ≤ 3 ∧ k < L ∧ tn (T k) = some d := by
  unfold tp at h
  split at h
  · rename_i z; exact ⟨tn_le h, z, h⟩
  · cases h
theorem td_le {L : Nat} {T : Nat → Nat} {k d : Nat} (h : td L T k = some d) : d ≤ 9 ∧ k < L ∧ T k = 48 + d := by
  unfold td at h
  split at h
  · rename_i z
    have := Option.some.inj h
    omega
  · cases h
theorem ts_none {L : Nat} {T : Nat → Nat} {k : Nat} (h : ts L T k = none) : ∃ d, tp L T k = some d ∧ (∀ i, i < d → ∃ v, td L T (k + 1 + i) = some v) ∧ k + 1 + d < L ∧ T (k + 1 + d) = 59 := by
  unfold ts at h
  cases q : tp L T k with
  | none => rw [q] at h; cases h
  | some d =>
    rw [q] at h
    simp only [tq] at h
    refine ⟨d, rfl, ?_⟩
    cases z : sp_find (fun i => (td L T (k + 1 + i)).isNone) d with
    | some i => rw [z] at h; cases h
    | none =>
      rw [z] at h
      simp only at h
      have hn := sp_find_nn z
      refine ⟨fun i hi => ?_, ?_⟩
      · have := hn i hi
        cases w : td L T (k + 1 + i) with
        | none => rw [w] at this; cases this
        | some v => exact ⟨v, rfl⟩
      · by_cases w : k + 1 + d < L ∧ T (k + 1 + d) = 59
        · exact w
        · rw [if_neg w] at h; cases h
theorem ts_lt {L : Nat} {T : Nat → Nat} {k q : Nat} (h : ts L T k = some q) : k ≤ q ∧ q ≤ k + 4 := by
  unfold ts at h
  cases w : tp L T k with
  | none => rw [w] at h; have := Option.some.inj h; omega
  | some d =>
    rw [w] at h
    have hd := (tp_le w).1
    simp only [tq] at h
    cases z : sp_find (fun i => (td L T (k + 1 + i)).isNone) d with
    | some i =>
      rw [z] at h
      have h1 := (sp_find_lt z).1
      have := Option.some.inj h
      omega
    | none =>
      rw [z] at h
      simp only at h
      split at h
      · cases h
      · have := Option.some.inj h; omega
/-- where the statements begin -/
def pl (L : Nat) (T : Nat → Nat) : Nat → Nat
  | 0 => 0
  | j + 1 => pl L T j + (tp L T (pl L T j)).getD 0 + 2
theorem pl_ge (L : Nat) (T : Nat → Nat) (j : Nat) : 2 * j ≤ pl L T j := by
  induction j with
  | zero => exact Nat.le_refl _
  | succ j ih => simp only [pl]; omega
def fn (L : Nat) (T : Nat → Nat) (j : Nat) : Prop := 1 ≤ j ∧ L ≤ pl L T j
def bd (L : Nat) (T : Nat → Nat) (j : Nat) : Prop := ts L T (pl L T j) ≠ none
/-- the statement at which the reading ends -/
def eK (L : Nat) (T : Nat → Nat) (K : Nat) : Prop := (fn L T K ∨ bd L T K) ∧ ∀ j, j < K → ¬ (fn L T j ∨ bd L T j)
theorem eK_ex {L : Nat} (T : Nat → Nat) (hL : L ≤ 96) : ∃ K, eK L T K := by
  obtain ⟨K, h1, h2⟩ := pk_least (fun j => fn L T j ∨ bd L T j) ⟨49, Or.inl ⟨by decide, by have := pl_ge L T 49; omega⟩⟩
  exact ⟨K, h1, h2⟩
theorem eK_step {L : Nat} {T : Nat → Nat} {K j : Nat} (h : eK L T K) (hj : j < K) : ts L T (pl L T j) = none ∧ pl L T (j + 1) ≤ L ∧ (1 ≤ j → pl L T j < L) := by
  have h1 := h.2 j hj
  have h2 : ts L T (pl L T j) = none := Classical.byContradiction fun q => h1 (Or.inr q)
  obtain ⟨d, d1, d2, d3, d4⟩ := ts_none h2
  refine ⟨h2, ?_, fun h3 => ?_⟩
  · simp only [pl]
    rw [d1]
    show pl L T j + d + 2 ≤ L
    omega
  · exact Classical.byContradiction fun q => h1 (Or.inl ⟨h3, by omega⟩)
theorem eK_le {L : Nat} {T : Nat → Nat} {K : Nat} (h : eK L T K) (hL : L ≤ 96) : pl L T K ≤ 96 ∧ K ≤ 48 ∧ (¬ fn L T K → K ≤ 47) := by
  have hK : pl L T K ≤ 96 := by
    cases K with
    | zero => exact Nat.zero_le _
    | succ j => have := (eK_step h (Nat.lt_succ_self j)).2.1; omega
  have h2 := pl_ge L T K
  refine ⟨hK, by omega, fun q => ?_⟩
  by_cases z : K = 0
  · omega
  · have : ¬ L ≤ pl L T K := fun w => q ⟨by omega, w⟩
    omega
theorem eK_pl {L : Nat} {T : Nat → Nat} {K j : Nat} (h : eK L T K) (hL : L ≤ 96) (hj : j < K) : pl L T j < L := by
  have h1 := (eK_step h hj).2.1
  simp only [pl] at h1
  omega
theorem eK_bad {L : Nat} {T : Nat → Nat} {K : Nat} (h : eK L T K) (hf : ¬ fn L T K) : ∃ q, ts L T (pl L T K) = some q := by
  have h1 : bd L T K := h.1.resolve_left hf
  cases z : ts L T (pl L T K) with
  | none => exact absurd z h1
  | some q => exact ⟨q, rfl⟩
theorem kd_tn : ∀ c, c < 256 → f_X7_digitsBehind (nI c) = some (sp_om (tn c)) := by decide +kernel
/-- the text lies in the memory at an id -/
def tm (M : mt_M) (i : Nat) (L : Nat) (T : Nat → Nat) : Prop := ∀ k, k < L → M i k = nI (T k)
section XT
variable {M : mt_M} {A : hs_A} {L : Nat} {T : Nat → Nat}
theorem xt_at (h : M 145 1 = nI L) (hL : L ≤ 96) (hT : tm M 146 L T) {k : Nat} (hk : k < 2 ^ 31) : f_X7_letterAt (nI k) M = some (tx L T k) := by
  unfold f_X7_letterAt tx
  rw [if_neg (nI_pos hk), h]
  by_cases q : k < L
  · rw [if_neg (nI_ge q (by omega)), if_pos q, mt_ci_t (vp_in_nI (show k < 96 by omega) (by omega)), nI_clamp hk, hT k q]
  · rw [if_pos (nI_le (by omega) hk), if_neg q]
theorem xt_dig (h : M 145 1 = nI L) (hL : L ≤ 96) (hT : tm M 146 L T) (hb : ∀ k, k < L → T k ≤ 255) {k : Nat} (hk : k < 2 ^ 31) : f_X7_digitAt (nI k) M = some (sp_om (td L T k)) := by
  unfold f_X7_digitAt
  rw [xt_at h hL hT hk, mt_b1E]
  unfold tx td
  by_cases q : k < L
  · have hq := hb k q
    rw [if_pos q, mi_48, mi_57]
    by_cases z : 48 ≤ T k
    · rw [if_neg (nI_nlt z (by omega))]
      by_cases w : T k ≤ 57
      · rw [if_neg (nI_nlt w (by omega)), if_pos ⟨q, z, w⟩, pk_sub z]; rfl
      · rw [if_pos (nI_lt (by omega) (by omega)), if_neg (fun u => w u.2.2)]; rfl
    · rw [if_pos (nI_lt (by omega) (by omega)), if_neg (fun u => z u.2.1)]; rfl
  · rw [if_neg q, if_pos (by decide), if_neg (fun u => q u.1)]; rfl
theorem xt_db (hb : ∀ k, k < L → T k ≤ 255) (k : Nat) : f_X7_digitsBehind (tx L T k) = some (sp_om (tp L T k)) := by
  unfold tx tp
  by_cases q : k < L
  · rw [if_pos q, if_pos q]; exact kd_tn _ (by have := hb k q; omega)
  · rw [if_neg q, if_neg q]; decide
theorem tx_59 {k : Nat} (hb : ∀ k, k < L → T k ≤ 255) : (tx L T k = 59) ↔ (k < L ∧ T k = 59) := by
  unfold tx
  by_cases q : k < L
  · rw [if_pos q, mi_59, nI_eq (by have := hb k q; omega) (by decide)]
    exact ⟨fun h => ⟨q, h⟩, fun h => h.2⟩
  · rw [if_neg q]
    exact ⟨fun h => absurd h (by decide), fun h => absurd h.1 q⟩
theorem xt_stray (h : M 145 1 = nI L) (hL : L ≤ 96) (hT : tm M 146 L T) (hb : ∀ k, k < L → T k ≤ 255) {k : Nat} (hk : k ≤ 1000) : f_X7_strayBehind (nI k) M = some (sp_om (ts L T k)) := by
  unfold f_X7_strayBehind
  rw [xt_at h hL hT (by omega), mt_b1E, xt_db hb, mt_b1E]
  unfold ts
  cases w : tp L T k with
  | none => rw [if_pos (by decide)]; rfl
  | some d =>
    have hd := (tp_le w).1
    have e1 : sp_om (some d) = nI d := rfl
    rw [e1, if_neg (by
      rcases (show d = 0 ∨ d = 1 ∨ d = 2 ∨ d = 3 by omega) with rfl | rfl | rfl | rfl <;> decide)]
    refine mt_lz1 (P := fun r => r = some (sp_om (tq L T k d))) (fun i x => x = nI (1 + i) ∧ ∀ j, j < i → (td L T (k + 1 + j)).isNone = false) d (by omega) ?_ ?_ ⟨rfl, fun j hj => by omega⟩
    · rintro i hi x ⟨rfl, ha⟩ c
      have ek : nI k + nI (1 + i) = nI (k + 1 + i) := by rw [nI_add, Nat.add_assoc]
      rw [if_neg (nI_nlt (show 1 + i ≤ d by omega) (by omega)), ek, xt_dig h hL hT hb (by omega), mt_b1E]
      cases z : td L T (k + 1 + i) with
      | none =>
        right
        rw [if_pos (show sp_om none = -1 from rfl)]
        have hf : sp_find (fun i => (td L T (k + 1 + i)).isNone) d = some i := sp_find_some hi (by show (td L T (k + 1 + i)).isNone = true; rw [z]; rfl) ha
        unfold tq
        rw [hf]
        rfl
      | some v =>
        left
        have hv := (td_le z).1
        have e2 : sp_om (some v) = nI v := rfl
        rw [e2, if_neg (by
          have h10 : ∀ v, v < 10 → ¬ nI v = -1 := by decide +kernel
          exact h10 v (by omega)), mt_ltE, nI_1]
        refine ⟨_, ⟨rfl, fun j hj => ?_⟩, rfl⟩
        by_cases u : j = i
        · subst u; rw [z]; rfl
        · exact ha j (by omega)
    · rintro x ⟨rfl, ha⟩ c
      have hf : sp_find (fun i => (td L T (k + 1 + i)).isNone) d = none := sp_find_none ha
      have ek : nI k + nI d + 1 = nI (k + 1 + d) := by rw [nI_add, nI_1]; congr 1; omega
      rw [if_pos (nI_lt (show d < 1 + d by omega) (by omega)), mt_ltE, ek, xt_at h hL hT (by omega), mt_b1E]
      unfold tq
      rw [hf]
      by_cases u : k + 1 + d < L ∧ T (k + 1 + d) = 59
      · rw [if_pos ((tx_59 hb).mpr u)]
        simp only
        rw [if_pos u]; rfl
      · rw [if_neg (fun v => u ((tx_59 hb).mp v))]
        simp only
        rw [if_neg u]; rfl
theorem xt_next (hb : ∀ k, k < L → T k ≤ 255) (h : M 145 1 = nI L) (hL : L ≤ 96) (hT : tm M 146 L T) {j : Nat} (hp : pl L T j ≤ 1000) (hg : ts L T (pl L T j) = none) {R : Type} (c : Int32 → Option R) : (mt_b1 (f_X7_letterAt (nI (pl L T j)) M) fun r10 => mt_b1 (f_X7_digitsBehind r10) fun r12 => mt_lt (nI (pl L T j) + (r12 + (2 : Int32))) fun x13 => c x13) = c (nI (pl L T (j + 1))) := by
  obtain ⟨d, d1, d2, d3, d4⟩ := ts_none hg
  have e1 : sp_om (some d) = nI d := rfl
  rw [xt_at h hL hT (by omega), mt_b1E, xt_db hb, mt_b1E, d1, e1, mt_ltE, mi_2, nI_add, nI_add]
  simp only [pl]
  rw [d1]
  rfl
theorem xt_first (h : M 145 1 = nI L) (hL : L ≤ 96) (hT : tm M 146 L T) (hb : ∀ k, k < L → T k ≤ 255) {K : Nat} (hK : eK L T K) : (fn L T K → f_X7_firstStray M = some (-1)) ∧ (¬ fn L T K → f_X7_firstStray M = some (sp_om (ts L T (pl L T K)))) := by
  obtain ⟨k1, k2, k3⟩ := eK_le hK hL
  have key : ∀ P : Option Int32 → Prop, (fn L T K → P (some (-1))) → (¬ fn L T K → P (some (sp_om (ts L T (pl L T K))))) → P (f_X7_firstStray M) := by
    intro P p1 p2
    unfold f_X7_firstStray
    refine mt_lz1 (P := P) (fun j x => x = nI (pl L T j)) K (by omega) ?_ ?_ rfl
    · rintro j hj x rfl c
      left
      obtain ⟨s1, s2, s3⟩ := eK_step hK hj
      have hp : pl L T j ≤ 96 := by have := eK_pl hK hL hj; omega
      refine ⟨_, rfl, ?_⟩
      rw [mt_ltE]
      have ej : (if nI (pl L T j) = 0 then (mt_b1 (f_X7_strayBehind (nI (pl L T j)) M) fun r7 => if r7 < 0 then mt_b1 (f_X7_letterAt (nI (pl L T j)) M) fun r10 => mt_b1 (f_X7_digitsBehind r10) fun r12 => mt_lt (nI (pl L T j) + (r12 + (2 : Int32))) fun x13 => c x13 else some r7) else if M 145 1 ≤ nI (pl L T j) then some (-1) else (mt_b1 (f_X7_strayBehind (nI (pl L T j)) M) fun r7 => if r7 < 0 then mt_b1 (f_X7_letterAt (nI (pl L T j)) M) fun r10 => mt_b1 (f_X7_digitsBehind r10) fun r12 => mt_lt (nI (pl L T j) + (r12 + (2 : Int32))) fun x13 => c x13 else some r7)) = (mt_b1 (f_X7_strayBehind (nI (pl L T j)) M) fun r7 => if r7 < 0 then mt_b1 (f_X7_letterAt (nI (pl L T j)) M) fun r10 => mt_b1 (f_X7_digitsBehind r10) fun r12 => mt_lt (nI (pl L T j) + (r12 + (2 : Int32))) fun x13 => c x13 else some r7) := by
        by_cases q : nI (pl L T j) = 0
        · rw [if_pos q]
        · rw [if_neg q, h, if_neg (nI_ge (s3 (by
            rcases Nat.eq_zero_or_pos j with z | z
            · subst z; exact absurd rfl q
            · exact z)) (by omega))]
      refine ej.trans ?_
      rw [xt_stray h hL hT hb (by omega), mt_b1E, s1, if_pos (by decide)]
      exact xt_next hb h hL hT (by omega) s1 c
    · rintro x rfl c
      rw [mt_ltE, h]
      by_cases q : fn L T K
      · have h2 := pl_ge L T K
        have h1 := q.1
        rw [if_neg (nI_ne0 (by omega) (by omega)), if_pos (nI_le q.2 (by omega))]
        exact p1 q
      · obtain ⟨f, hf⟩ := eK_bad hK q
        have hfl := ts_lt hf
        have e1 : sp_om (some f) = nI f := rfl
        have ej : (if nI (pl L T K) = 0 then (mt_b1 (f_X7_strayBehind (nI (pl L T K)) M) fun r7 => if r7 < 0 then mt_b1 (f_X7_letterAt (nI (pl L T K)) M) fun r10 => mt_b1 (f_X7_digitsBehind r10) fun r12 => mt_lt (nI (pl L T K) + (r12 + (2 : Int32))) fun x13 => c x13 else some r7) else if nI L ≤ nI (pl L T K) then some (-1) else (mt_b1 (f_X7_strayBehind (nI (pl L T K)) M) fun r7 => if r7 < 0 then mt_b1 (f_X7_letterAt (nI (pl L T K)) M) fun r10 => mt_b1 (f_X7_digitsBehind r10) fun r12 => mt_lt (nI (pl L T K) + (r12 + (2 : Int32))) fun x13 => c x13 else some r7)) = some (sp_om (ts L T (pl L T K))) := by
          have ein : (mt_b1 (f_X7_strayBehind (nI (pl L T K)) M) fun r7 => if r7 < 0 then mt_b1 (f_X7_letterAt (nI (pl L T K)) M) fun r10 => mt_b1 (f_X7_digitsBehind r10) fun r12 => mt_lt (nI (pl L T K) + (r12 + (2 : Int32))) fun x13 => c x13 else some r7) = some (sp_om (ts L T (pl L T K))) := by
            rw [xt_stray h hL hT hb (by omega), mt_b1E, hf, e1, if_neg (nI_pos (by omega))]
          rw [ein]
          by_cases z : nI (pl L T K) = 0
          · rw [if_pos z]
          · rw [if_neg z, if_neg (nI_ge (by
              have h0 : K ≠ 0 := fun w => z (by rw [w]; rfl)
              have : ¬ L ≤ pl L T K := fun w => q ⟨by omega, w⟩
              omega) (by omega))]
        rw [show P (if nI (pl L T K) = 0 then (mt_b1 (f_X7_strayBehind (nI (pl L T K)) M) fun r7 => if r7 < 0 then mt_b1 (f_X7_letterAt (nI (pl L T K)) M) fun r10 => mt_b1 (f_X7_digitsBehind r10) fun r12 => mt_lt (nI (pl L T K) + (r12 + (2 : Int32))) fun x13 => c x13 else some r7) else if nI L ≤ nI (pl L T K) then some (-1) else (mt_b1 (f_X7_strayBehind (nI (pl L T K)) M) fun r7 => if r7 < 0 then mt_b1 (f_X7_letterAt (nI (pl L T K)) M) fun r10 => mt_b1 (f_X7_digitsBehind r10) fun r12 => mt_lt (nI (pl L T K) + (r12 + (2 : Int32))) fun x13 => c x13 else some r7)) = P (some (sp_om (ts L T (pl L T K)))) by rw [ej]]
        exact p2 q
  exact ⟨fun q => key (fun r => r = some (-1)) (fun _ => rfl) (fun z => absurd q z), fun q => key (fun r => r = some (sp_om (ts L T (pl L T K)))) (fun z => absurd z q) (fun _ => rfl)⟩
end XT

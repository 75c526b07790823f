/-! HOUSES TOLD IN LETTERS: the reference reads -/
theorem ra_106 (a2 : Int32) (M : mt_M) : f_X12_readsAll (nI 106) a2 M = some (1, M) := by
  unfold f_X12_readsAll
  rw [if_pos (show nI 106 = (106 : Int32) from rfl)]
theorem ra_100 (a2 : Int32) (M : mt_M) : f_X12_readsAll (nI 100) a2 M = mt_b2 (f_X12_readsDigits a2 1 M) (fun r m => mt_ck (r = 0 ∨ r = 1) (some (r, m))) := by
  unfold f_X12_readsAll
  rw [if_neg (show ¬ nI 100 = (106 : Int32) by decide), if_neg (show ¬ nI 100 = (107 : Int32) by decide), if_neg (show ¬ nI 100 = (108 : Int32) by decide), if_neg (show ¬ nI 100 = (109 : Int32) by decide), if_neg (show ¬ nI 100 = (110 : Int32) by decide), if_neg (show ¬ nI 100 = (111 : Int32) by decide), if_neg (show ¬ nI 100 = (112 : Int32) by decide), if_neg (show ¬ nI 100 = (113 : Int32) by decide), if_neg (show ¬ nI 100 = (114 : Int32) by decide), if_neg (show ¬ nI 100 = (115 : Int32) by decide), if_neg (show ¬ nI 100 = (116 : Int32) by decide), if_neg (show ¬ nI 100 = (117 : Int32) by decide), if_neg (show ¬ nI 100 = (118 : Int32) by decide), if_neg (show ¬ nI 100 = (119 : Int32) by decide), if_neg (show ¬ nI 100 = (120 : Int32) by decide)]
theorem ra_114 (a2 : Int32) (M : mt_M) : f_X12_readsAll (nI 114) a2 M = mt_b2 (f_X12_readsDigits a2 1 M) (fun r m => mt_ck (r = 0 ∨ r = 1) (some (r, m))) := by
  unfold f_X12_readsAll
  rw [if_neg (show ¬ nI 114 = (106 : Int32) by decide), if_neg (show ¬ nI 114 = (107 : Int32) by decide), if_neg (show ¬ nI 114 = (108 : Int32) by decide), if_neg (show ¬ nI 114 = (109 : Int32) by decide), if_neg (show ¬ nI 114 = (110 : Int32) by decide), if_neg (show ¬ nI 114 = (111 : Int32) by decide), if_neg (show ¬ nI 114 = (112 : Int32) by decide), if_neg (show ¬ nI 114 = (113 : Int32) by decide), if_pos (show nI 114 = (114 : Int32) from rfl)]
theorem ra_107 (a2 : Int32) (M : mt_M) : f_X12_readsAll (nI 107) a2 M = mt_b2 (f_X12_readsDigits a2 1 M) (fun r m => if r = 0 then some (0, m) else mt_b2 (f_X12_readsDigits (a2 + 1) 1 m) (fun r m => if r = 0 then some (0, m) else some (1, m))) := by
  unfold f_X12_readsAll
  rw [if_neg (show ¬ nI 107 = (106 : Int32) by decide), if_pos (show nI 107 = (107 : Int32) from rfl)]
theorem ra_119 (a2 : Int32) (M : mt_M) : f_X12_readsAll (nI 119) a2 M = mt_b2 (f_X12_readsDigits a2 1 M) (fun r m => if r = 0 then some (0, m) else mt_b2 (f_X12_readsDigits (a2 + 1) 1 m) (fun r m => if r = 0 then some (0, m) else some (1, m))) := by
  unfold f_X12_readsAll
  rw [if_neg (show ¬ nI 119 = (106 : Int32) by decide), if_neg (show ¬ nI 119 = (107 : Int32) by decide), if_neg (show ¬ nI 119 = (108 : Int32) by decide), if_neg (show ¬ nI 119 = (109 : Int32) by decide), if_neg (show ¬ nI 119 = (110 : Int32) by decide), if_neg (show ¬ nI 119 = (111 : Int32) by decide), if_neg (show ¬ nI 119 = (112 : Int32) by decide), if_neg (show ¬ nI 119 = (113 : Int32) by decide), if_neg (show ¬ nI 119 = (114 : Int32) by decide), if_neg (show ¬ nI 119 = (115 : Int32) by decide), if_neg (show ¬ nI 119 = (116 : Int32) by decide), if_neg (show ¬ nI 119 = (117 : Int32) by decide), if_neg (show ¬ nI 119 = (118 : Int32) by decide), if_pos (show nI 119 = (119 : Int32) from rfl)]
theorem ra_120 (a2 : Int32) (M : mt_M) : f_X12_readsAll (nI 120) a2 M = mt_b2 (f_X12_readsDigits a2 1 M) (fun r m => if r = 0 then some (0, m) else mt_b2 (f_X12_readsDigits (a2 + 1) 1 m) (fun r m => if r = 0 then some (0, m) else some (1, m))) := by
  unfold f_X12_readsAll
  rw [if_neg (show ¬ nI 120 = (106 : Int32) by decide), if_neg (show ¬ nI 120 = (107 : Int32) by decide), if_neg (show ¬ nI 120 = (108 : Int32) by decide), if_neg (show ¬ nI 120 = (109 : Int32) by decide), if_neg (show ¬ nI 120 = (110 : Int32) by decide), if_neg (show ¬ nI 120 = (111 : Int32) by decide), if_neg (show ¬ nI 120 = (112 : Int32) by decide), if_neg (show ¬ nI 120 = (113 : Int32) by decide), if_neg (show ¬ nI 120 = (114 : Int32) by decide), if_neg (show ¬ nI 120 = (115 : Int32) by decide), if_neg (show ¬ nI 120 = (116 : Int32) by decide), if_neg (show ¬ nI 120 = (117 : Int32) by decide), if_neg (show ¬ nI 120 = (118 : Int32) by decide), if_neg (show ¬ nI 120 = (119 : Int32) by decide), if_pos (show nI 120 = (120 : Int32) from rfl)]
theorem ra_115 (a2 : Int32) (M : mt_M) : f_X12_readsAll (nI 115) a2 M = mt_b2 (f_X12_readsDigits a2 1 M) (fun r m => if r = 0 then some (0, m) else mt_b2 (f_X12_readsDigits (a2 + 1) 2 m) (fun r m => if r = 0 then some (0, m) else some (1, m))) := by
  unfold f_X12_readsAll
  rw [if_neg (show ¬ nI 115 = (106 : Int32) by decide), if_neg (show ¬ nI 115 = (107 : Int32) by decide), if_neg (show ¬ nI 115 = (108 : Int32) by decide), if_neg (show ¬ nI 115 = (109 : Int32) by decide), if_neg (show ¬ nI 115 = (110 : Int32) by decide), if_neg (show ¬ nI 115 = (111 : Int32) by decide), if_neg (show ¬ nI 115 = (112 : Int32) by decide), if_neg (show ¬ nI 115 = (113 : Int32) by decide), if_neg (show ¬ nI 115 = (114 : Int32) by decide), if_pos (show nI 115 = (115 : Int32) from rfl)]
theorem ra_116 (a2 : Int32) (M : mt_M) : f_X12_readsAll (nI 116) a2 M = mt_b2 (f_X12_readsDigits a2 1 M) (fun r m => if r = 0 then some (0, m) else mt_b2 (f_X12_readsDigits (a2 + 1) 1 m) (fun r m => if r = 0 then some (0, m) else mt_b2 (f_X12_readsDigits (a2 + 2) 1 m) (fun r m => if r = 0 then some (0, m) else some (1, m)))) := by
  unfold f_X12_readsAll
  rw [if_neg (show ¬ nI 116 = (106 : Int32) by decide), if_neg (show ¬ nI 116 = (107 : Int32) by decide), if_neg (show ¬ nI 116 = (108 : Int32) by decide), if_neg (show ¬ nI 116 = (109 : Int32) by decide), if_neg (show ¬ nI 116 = (110 : Int32) by decide), if_neg (show ¬ nI 116 = (111 : Int32) by decide), if_neg (show ¬ nI 116 = (112 : Int32) by decide), if_neg (show ¬ nI 116 = (113 : Int32) by decide), if_neg (show ¬ nI 116 = (114 : Int32) by decide), if_neg (show ¬ nI 116 = (115 : Int32) by decide), if_pos (show nI 116 = (116 : Int32) from rfl)]
def dv (L : Nat) (T : Nat → Nat) (k : Nat) : Nat := (td L T k).getD 0
def dw (L : Nat) (T : Nat → Nat) (a : Nat) : Nat → Nat
  | 0 => 0
  | i + 1 => 10 * dw L T a i + dv L T (a + i)
theorem dv_le (L : Nat) (T : Nat → Nat) (k : Nat) : dv L T k ≤ 9 := by
  unfold dv
  cases h : td L T k with
  | none => exact Nat.zero_le _
  | some v => exact (td_le h).1
theorem dw_le (L : Nat) (T : Nat → Nat) (a : Nat) {i : Nat} (hi : i ≤ 2) : dw L T a i ≤ 99 := by
  have h0 := dv_le L T (a + 0)
  have h1 := dv_le L T (a + 1)
  rcases (show i = 0 ∨ i = 1 ∨ i = 2 by omega) with rfl | rfl | rfl
  · exact Nat.zero_le _
  · show 10 * 0 + dv L T (a + 0) ≤ 99
    omega
  · show 10 * (10 * 0 + dv L T (a + 0)) + dv L T (a + 1) ≤ 99
    omega
/-- the reference's letters -/
def xR (M : mt_M) (L : Nat) (T : Nat → Nat) : Prop := M 147 16 = nI L ∧ tm M 156 L T
theorem xR_fr {M m : mt_M} {L : Nat} {T : Nat → Nat} (h : xR M L T) (hf : ∀ id k : Nat, ((id ≠ 147 ∨ k ≠ 17) ∧ id ≠ 159) → m id k = M id k) : xR m L T :=
  ⟨(hf 147 16 ⟨Or.inr (by decide), by decide⟩).trans h.1, fun k hk => (hf 156 k ⟨Or.inl (by decide), by decide⟩).trans (h.2 k hk)⟩
/-- what is told of the statement j at p -/
def tl (L : Nat) (T : Nat → Nat) (p j : Nat) (m : mt_M) : Prop := (T p ≠ 106 → m 159 (3 * j) = nI (dv L T (p + 1))) ∧ (T p = 107 ∨ T p = 119 ∨ T p = 120 ∨ T p = 116 → m 159 (3 * j + 1) = nI (dv L T (p + 2))) ∧ (T p = 115 → m 159 (3 * j + 1) = nI (10 * dv L T (p + 2) + dv L T (p + 3))) ∧ (T p = 116 → m 159 (3 * j + 2) = nI (dv L T (p + 3)))
theorem tl_eq {L : Nat} {T : Nat → Nat} {p j : Nat} {m m' : mt_M} (h : tl L T p j m) (hf : ∀ k, k < 3 * (j + 1) → m' 159 k = m 159 k) : tl L T p j m' :=
  ⟨fun q => (hf _ (by omega)).trans (h.1 q), fun q => (hf _ (by omega)).trans (h.2.1 q), fun q => (hf _ (by omega)).trans (h.2.2.1 q), fun q => (hf _ (by omega)).trans (h.2.2.2 q)⟩
theorem kd_il : ∀ c, c < 256 → f_X12_isLetter (nI c) = some (if (tn c).isSome = true then 1 else 0) := by decide +kernel
section XP
variable {M : mt_M} {A : hs_A} {L : Nat} {T : Nat → Nat}
theorem xn_next (hR : xR M L T) (hL : L ≤ 96) {a : Nat} (h17 : M 147 17 = nI a) (ha : a < 2 ^ 31) : f_X12_next M = some (tx L T a) := by
  unfold f_X12_next tx
  rw [hR.1, h17]
  by_cases q : a < L
  · rw [if_neg (nI_ge q (by omega)), if_pos q, mt_ci_t (vp_in_nI (show a < 96 by omega) (by omega)), nI_clamp ha, hR.2 a q]
  · rw [if_pos (nI_le (by omega) ha), if_neg q]
theorem tx_in (hb : ∀ k, k < L → T k ≤ 255) (a : Nat) : f_X12_isIn (tx L T a) 48 57 = some (if (td L T a).isSome = true then 1 else 0) := by
  cases z : td L T a with
  | some v =>
    obtain ⟨v1, v2, v3⟩ := td_le z
    have et : tx L T a = nI (48 + v) := by unfold tx; rw [if_pos v2, v3]
    unfold f_X12_isIn
    rw [et, mi_48, mi_57, if_neg (nI_nlt (by omega) (by omega)), if_neg (nI_nlt (by omega) (by omega))]; rfl
  | none =>
    unfold f_X12_isIn tx
    by_cases q : a < L
    · have hq := hb a q
      have hn : ¬ (48 ≤ T a ∧ T a ≤ 57) := fun w => by
        unfold td at z
        rw [if_pos ⟨q, w⟩] at z
        cases z
      rw [if_pos q, mi_48, mi_57]
      by_cases w : 48 ≤ T a
      · rw [if_neg (nI_nlt w (by omega)), if_pos (nI_lt (show 57 < T a by omega) (by omega))]; rfl
      · rw [if_pos (nI_lt (by omega) (by omega))]; rfl
    · rw [if_neg q, if_pos (by decide)]; rfl
theorem xr_digK (hR : xR M L T) (hL : L ≤ 96) (hb : ∀ k, k < L → T k ≤ 255) {p cnt a : Nat} (h17 : M 147 17 = nI a) (ha : a ≤ 1000) (hp : p < 144) (hc : cnt ≤ 2) (P : Option (Int32 × mt_M) → Prop)
    (p1 : ∀ m' : mt_M, (∀ i, i < cnt → ∃ v, td L T (a + i) = some v) → m' 147 17 = nI (a + cnt) → m' 159 p = nI (dw L T a cnt) → (∀ id k, (id ≠ 147 ∨ k ≠ 17) → (id ≠ 159 ∨ k ≠ p) → m' id k = M id k) → P (some (1, m')))
    (p2 : ∀ (i : Nat) (m' : mt_M), i < cnt → (∀ j, j < i → ∃ v, td L T (a + j) = some v) → td L T (a + i) = none → m' 147 17 = nI (a + i) → (∀ id k, (id ≠ 147 ∨ k ≠ 17) → m' id k = M id k) → P (some (0, m'))) : P (f_X12_readsDigits (nI p) (nI cnt) M) := by
  unfold f_X12_readsDigits
  refine mt_lz3 (P := P) (fun i (x : Int32) (y : Int32) (m : mt_M) => x = nI (dw L T a i) ∧ y = nI i ∧ m 147 17 = nI (a + i) ∧ (∀ id k, (id ≠ 147 ∨ k ≠ 17) → m id k = M id k) ∧ ∀ j, j < i → ∃ v, td L T (a + j) = some v) cnt (by omega) ?_ ?_ ⟨rfl, rfl, h17, fun _ _ _ => rfl, fun j hj => by omega⟩
  · rintro i hi x y m ⟨rfl, rfl, hm, hf, hv⟩ c
    have hRm : xR m L T := xR_fr hR (fun id k h => hf id k h.1)
    have hw := dw_le L T a (show i ≤ 2 by omega)
    rw [if_neg (nI_ge hi (by omega)), xn_next hRm hL hm (by omega), mt_b1E, tx_in hb, mt_b1E]
    cases z : td L T (a + i) with
    | none =>
      right
      rw [if_pos (show (if (none : Option Nat).isSome = true then (1 : Int32) else 0) = 0 from rfl)]
      exact p2 i m hi hv z hm hf
    | some v =>
      left
      obtain ⟨v1, v2, v3⟩ := td_le z
      have et : tx L T (a + i) = nI (48 + v) := by unfold tx; rw [if_pos v2, v3]
      have ed : dw L T a (i + 1) = 10 * dw L T a i + v := by
        show 10 * dw L T a i + dv L T (a + i) = _
        unfold dv
        rw [z]; rfl
      rw [if_neg (show ¬ (if (some v : Option Nat).isSome = true then (1 : Int32) else 0) = 0 from (by decide : ¬ (if true = true then (1 : Int32) else 0) = 0)), mt_b1E, et, mi_10, pk_mul, nI_add, mi_48, pk_sub (show 48 ≤ 10 * dw L T a i + (48 + v) by omega), mt_ltE, hm, nI_1, mt_ltE, mt_ltE, nI_1]
      refine ⟨nI (dw L T a (i + 1)), nI (i + 1), mt_wr m 147 17 (nI (a + i + 1)), ⟨rfl, rfl, mt_wr_s _ _ _ _, fun id k h => ?_, fun j hj => ?_⟩, ?_⟩
      · rw [mt_wr_ne2 h]; exact hf id k h
      · by_cases u : j = i
        · subst u; exact ⟨v, z⟩
        · exact hv j (by omega)
      · rw [ed, show 10 * dw L T a i + (48 + v) - 48 = 10 * dw L T a i + v by omega]
  · rintro x y m ⟨rfl, rfl, hm, hf, hv⟩ c
    rw [if_pos (nI_le (Nat.le_refl _) (by omega)), mt_ci_t (vp_in_nI hp (by omega)), mt_ltE, nI_clamp (by omega)]
    refine p1 _ hv ?_ (mt_wr_s _ _ _ _) (fun id k h1 h2 => ?_)
    · rw [mt_wr_ne (by decide)]; exact hm
    · rw [mt_wr_ne2 h2]; exact hf id k h1
theorem xr_dig (hR : xR M L T) (hL : L ≤ 96) (hb : ∀ k, k < L → T k ≤ 255) {p cnt a : Nat} (h17 : M 147 17 = nI a) (ha : a ≤ 1000) (hp : p < 144) (hc : cnt ≤ 2) (hd : ∀ i, i < cnt → ∃ v, td L T (a + i) = some v) : ∃ m', f_X12_readsDigits (nI p) (nI cnt) M = some (1, m') ∧ m' 147 17 = nI (a + cnt) ∧ m' 159 p = nI (dw L T a cnt) ∧ xR m' L T ∧ ∀ id k, (id ≠ 147 ∨ k ≠ 17) → (id ≠ 159 ∨ k ≠ p) → m' id k = M id k := by
  refine xr_digK hR hL hb h17 ha hp hc (fun r => ∃ m', r = some (1, m') ∧ m' 147 17 = nI (a + cnt) ∧ m' 159 p = nI (dw L T a cnt) ∧ xR m' L T ∧ ∀ id k, (id ≠ 147 ∨ k ≠ 17) → (id ≠ 159 ∨ k ≠ p) → m' id k = M id k) (fun m' _ h1 h2 h3 => ⟨m', rfl, h1, h2, xR_fr hR (fun id k h => h3 id k h.1 (Or.inl h.2)), h3⟩) (fun i m' hi _ hz _ _ => ?_)
  obtain ⟨v, hv⟩ := hd i hi
  rw [hz] at hv
  cases hv
theorem xr_digNo (hR : xR M L T) (hL : L ≤ 96) (hb : ∀ k, k < L → T k ≤ 255) {p cnt a i : Nat} (h17 : M 147 17 = nI a) (ha : a ≤ 1000) (hp : p < 144) (hc : cnt ≤ 2) (hi : i < cnt) (hd : ∀ j, j < i → ∃ v, td L T (a + j) = some v) (hz : td L T (a + i) = none) : ∃ m', f_X12_readsDigits (nI p) (nI cnt) M = some (0, m') ∧ m' 147 17 = nI (a + i) := by
  refine xr_digK hR hL hb h17 ha hp hc (fun r => ∃ m', r = some (0, m') ∧ m' 147 17 = nI (a + i)) (fun m' h _ _ _ => ?_) (fun i' m' hi' hd' hz' h1 _ => ?_)
  · obtain ⟨v, hv⟩ := h i hi
    rw [hz] at hv
    cases hv
  · rcases Nat.lt_trichotomy i i' with w | w | w
    · obtain ⟨v, hv⟩ := hd' i w
      rw [hz] at hv
      cases hv
    · subst w; exact ⟨m', rfl, h1⟩
    · obtain ⟨v, hv⟩ := hd i' w
      rw [hz'] at hv
      cases hv
theorem dw_1 (a : Nat) : dw L T a 1 = dv L T a := by show 10 * 0 + dv L T a = dv L T a; omega
theorem dw_2 (a : Nat) : dw L T a 2 = 10 * dv L T a + dv L T (a + 1) := by show 10 * (10 * 0 + dv L T a) + dv L T (a + 1) = _; omega
theorem tn_cases {c d : Nat} (h : tn c = some d) : c = 106 ∨ c = 100 ∨ c = 114 ∨ c = 107 ∨ c = 119 ∨ c = 120 ∨ c = 115 ∨ c = 116 := by
  unfold tn at h
  split at h
  · omega
  · split at h
    · omega
    · split at h
      · omega
      · split at h
        · omega
        · cases h
theorem xr_all (hR : xR M L T) (hL : L ≤ 96) (hb : ∀ k, k < L → T k ≤ 255) {p j d : Nat} (h17 : M 147 17 = nI (p + 1)) (hp : p ≤ 200) (hj : j ≤ 47) (hd : tn (T p) = some d) (hg : ∀ i, i < d → ∃ v, td L T (p + 1 + i) = some v) : ∃ m', f_X12_readsAll (nI (T p)) (nI (3 * j)) M = some (1, m') ∧ m' 147 17 = nI (p + 1 + d) ∧ tl L T p j m' ∧ ∀ id k, (id ≠ 147 ∨ k ≠ 17) → (id ≠ 159 ∨ k < 3 * j) → m' id k = M id k := by
  rcases tn_cases hd with hc | hc | hc | hc | hc | hc | hc | hc
  · -- 106
    have ec : T p = 106 := hc
    have e0 : tn 106 = some 0 := rfl
    rw [ec, e0] at hd
    obtain rfl := Option.some.inj hd
    rw [ec, ra_106]
    exact ⟨M, rfl, h17, ⟨fun q => absurd ec q, fun q => by omega, fun q => by omega, fun q => by omega⟩, fun _ _ _ _ => rfl⟩
  · -- 100
    have ec : T p = 100 := hc
    have e0 : tn 100 = some 1 := rfl
    rw [ec, e0] at hd
    obtain rfl := Option.some.inj hd
    rw [ec, ra_100]
    obtain ⟨m1, r1, a1, b1, R1, f1⟩ := xr_dig hR hL hb (p := 3 * j) (cnt := 1) h17 (by omega) (by omega) (by decide) (fun i hi => hg i (by omega))
    rw [dw_1] at b1
    have r1 : f_X12_readsDigits (nI (3 * j)) 1 M = some (1, m1) := r1
    rw [r1, mt_b2E]
    rw [mt_ck_t (Or.inr rfl)]
    exact ⟨m1, rfl, a1, ⟨fun _ => b1, fun q => by omega, fun q => by omega, fun q => by omega⟩, fun id k h1 h2 => f1 id k h1 (by omega)⟩
  · -- 114
    have ec : T p = 114 := hc
    have e0 : tn 114 = some 1 := rfl
    rw [ec, e0] at hd
    obtain rfl := Option.some.inj hd
    rw [ec, ra_114]
    obtain ⟨m1, r1, a1, b1, R1, f1⟩ := xr_dig hR hL hb (p := 3 * j) (cnt := 1) h17 (by omega) (by omega) (by decide) (fun i hi => hg i (by omega))
    rw [dw_1] at b1
    have r1 : f_X12_readsDigits (nI (3 * j)) 1 M = some (1, m1) := r1
    rw [r1, mt_b2E]
    rw [mt_ck_t (Or.inr rfl)]
    exact ⟨m1, rfl, a1, ⟨fun _ => b1, fun q => by omega, fun q => by omega, fun q => by omega⟩, fun id k h1 h2 => f1 id k h1 (by omega)⟩
  · -- 107
    have ec : T p = 107 := hc
    have e0 : tn 107 = some 2 := rfl
    rw [ec, e0] at hd
    obtain rfl := Option.some.inj hd
    rw [ec, ra_107]
    obtain ⟨m1, r1, a1, b1, R1, f1⟩ := xr_dig hR hL hb (p := 3 * j) (cnt := 1) h17 (by omega) (by omega) (by decide) (fun i hi => hg i (by omega))
    rw [dw_1] at b1
    have r1 : f_X12_readsDigits (nI (3 * j)) 1 M = some (1, m1) := r1
    rw [r1, mt_b2E]
    rw [if_neg (by decide), nI_1]
    obtain ⟨m2, r2, a2, b2, R2, f2⟩ := xr_dig R1 hL hb (p := 3 * j + 1) (cnt := 1) a1 (by omega) (by omega) (by decide) (fun i hi => by have := hg (1 + i) (by omega); rwa [← Nat.add_assoc] at this)
    rw [dw_1] at b2
    have r2 : f_X12_readsDigits (nI (3 * j + 1)) 1 m1 = some (1, m2) := r2
    have b1' : m2 159 (3 * j) = nI (dv L T (p + 1)) := (f2 _ _ (Or.inl (by decide)) (Or.inr (by omega))).trans b1
    rw [r2, mt_b2E, if_neg (by decide)]
    exact ⟨m2, rfl, a2, ⟨fun _ => b1', fun _ => b2, fun q => by omega, fun q => by omega⟩, fun id k h1 h2 => (f2 id k h1 (by omega)).trans (f1 id k h1 (by omega))⟩
  · -- 119
    have ec : T p = 119 := hc
    have e0 : tn 119 = some 2 := rfl
    rw [ec, e0] at hd
    obtain rfl := Option.some.inj hd
    rw [ec, ra_119]
    obtain ⟨m1, r1, a1, b1, R1, f1⟩ := xr_dig hR hL hb (p := 3 * j) (cnt := 1) h17 (by omega) (by omega) (by decide) (fun i hi => hg i (by omega))
    rw [dw_1] at b1
    have r1 : f_X12_readsDigits (nI (3 * j)) 1 M = some (1, m1) := r1
    rw [r1, mt_b2E]
    rw [if_neg (by decide), nI_1]
    obtain ⟨m2, r2, a2, b2, R2, f2⟩ := xr_dig R1 hL hb (p := 3 * j + 1) (cnt := 1) a1 (by omega) (by omega) (by decide) (fun i hi => by have := hg (1 + i) (by omega); rwa [← Nat.add_assoc] at this)
    rw [dw_1] at b2
    have r2 : f_X12_readsDigits (nI (3 * j + 1)) 1 m1 = some (1, m2) := r2
    have b1' : m2 159 (3 * j) = nI (dv L T (p + 1)) := (f2 _ _ (Or.inl (by decide)) (Or.inr (by omega))).trans b1
    rw [r2, mt_b2E, if_neg (by decide)]
    exact ⟨m2, rfl, a2, ⟨fun _ => b1', fun _ => b2, fun q => by omega, fun q => by omega⟩, fun id k h1 h2 => (f2 id k h1 (by omega)).trans (f1 id k h1 (by omega))⟩
  · -- 120
    have ec : T p = 120 := hc
    have e0 : tn 120 = some 2 := rfl
    rw [ec, e0] at hd
    obtain rfl := Option.some.inj hd
    rw [ec, ra_120]
    obtain ⟨m1, r1, a1, b1, R1, f1⟩ := xr_dig hR hL hb (p := 3 * j) (cnt := 1) h17 (by omega) (by omega) (by decide) (fun i hi => hg i (by omega))
    rw [dw_1] at b1
    have r1 : f_X12_readsDigits (nI (3 * j)) 1 M = some (1, m1) := r1
    rw [r1, mt_b2E]
    rw [if_neg (by decide), nI_1]
    obtain ⟨m2, r2, a2, b2, R2, f2⟩ := xr_dig R1 hL hb (p := 3 * j + 1) (cnt := 1) a1 (by omega) (by omega) (by decide) (fun i hi => by have := hg (1 + i) (by omega); rwa [← Nat.add_assoc] at this)
    rw [dw_1] at b2
    have r2 : f_X12_readsDigits (nI (3 * j + 1)) 1 m1 = some (1, m2) := r2
    have b1' : m2 159 (3 * j) = nI (dv L T (p + 1)) := (f2 _ _ (Or.inl (by decide)) (Or.inr (by omega))).trans b1
    rw [r2, mt_b2E, if_neg (by decide)]
    exact ⟨m2, rfl, a2, ⟨fun _ => b1', fun _ => b2, fun q => by omega, fun q => by omega⟩, fun id k h1 h2 => (f2 id k h1 (by omega)).trans (f1 id k h1 (by omega))⟩
  · -- 115
    have ec : T p = 115 := hc
    have e0 : tn 115 = some 3 := rfl
    rw [ec, e0] at hd
    obtain rfl := Option.some.inj hd
    rw [ec, ra_115]
    obtain ⟨m1, r1, a1, b1, R1, f1⟩ := xr_dig hR hL hb (p := 3 * j) (cnt := 1) h17 (by omega) (by omega) (by decide) (fun i hi => hg i (by omega))
    rw [dw_1] at b1
    have r1 : f_X12_readsDigits (nI (3 * j)) 1 M = some (1, m1) := r1
    rw [r1, mt_b2E]
    rw [if_neg (by decide), nI_1]
    obtain ⟨m2, r2, a2, b2, R2, f2⟩ := xr_dig R1 hL hb (p := 3 * j + 1) (cnt := 2) a1 (by omega) (by omega) (by decide) (fun i hi => by have := hg (1 + i) (by omega); rwa [← Nat.add_assoc] at this)
    rw [dw_2] at b2
    have r2 : f_X12_readsDigits (nI (3 * j + 1)) 2 m1 = some (1, m2) := r2
    have b1' : m2 159 (3 * j) = nI (dv L T (p + 1)) := (f2 _ _ (Or.inl (by decide)) (Or.inr (by omega))).trans b1
    rw [r2, mt_b2E, if_neg (by decide)]
    exact ⟨m2, rfl, a2, ⟨fun _ => b1', fun q => by omega, fun _ => b2, fun q => by omega⟩, fun id k h1 h2 => (f2 id k h1 (by omega)).trans (f1 id k h1 (by omega))⟩
  · -- 116
    have ec : T p = 116 := hc
    have e0 : tn 116 = some 3 := rfl
    rw [ec, e0] at hd
    obtain rfl := Option.some.inj hd
    rw [ec, ra_116]
    obtain ⟨m1, r1, a1, b1, R1, f1⟩ := xr_dig hR hL hb (p := 3 * j) (cnt := 1) h17 (by omega) (by omega) (by decide) (fun i hi => hg i (by omega))
    rw [dw_1] at b1
    have r1 : f_X12_readsDigits (nI (3 * j)) 1 M = some (1, m1) := r1
    rw [r1, mt_b2E]
    rw [if_neg (by decide), nI_1]
    obtain ⟨m2, r2, a2, b2, R2, f2⟩ := xr_dig R1 hL hb (p := 3 * j + 1) (cnt := 1) a1 (by omega) (by omega) (by decide) (fun i hi => by have := hg (1 + i) (by omega); rwa [← Nat.add_assoc] at this)
    rw [dw_1] at b2
    have r2 : f_X12_readsDigits (nI (3 * j + 1)) 1 m1 = some (1, m2) := r2
    have b1' : m2 159 (3 * j) = nI (dv L T (p + 1)) := (f2 _ _ (Or.inl (by decide)) (Or.inr (by omega))).trans b1
    rw [r2, mt_b2E, if_neg (by decide)]
    have e3 : nI (3 * j) + (2 : Int32) = nI (3 * j + 2) := nI_add _ 2
    rw [e3]
    obtain ⟨m3, r3, a3, b3, R3, f3⟩ := xr_dig R2 hL hb (p := 3 * j + 2) (cnt := 1) a2 (by omega) (by omega) (by decide) (fun i hi => by have := hg (2 + i) (by omega); rwa [← Nat.add_assoc] at this)
    rw [dw_1] at b3
    have r3 : f_X12_readsDigits (nI (3 * j + 2)) 1 m2 = some (1, m3) := r3
    have b1'' : m3 159 (3 * j) = nI (dv L T (p + 1)) := (f3 _ _ (Or.inl (by decide)) (Or.inr (by omega))).trans b1'
    have b2'' : m3 159 (3 * j + 1) = nI (dv L T (p + 2)) := (f3 _ _ (Or.inl (by decide)) (Or.inr (by omega))).trans b2
    rw [r3, mt_b2E, if_neg (by decide)]
    exact ⟨m3, rfl, a3, ⟨fun _ => b1'', fun _ => b2'', fun q => by omega, fun _ => b3⟩, fun id k h1 h2 => (f3 id k h1 (by omega)).trans ((f2 id k h1 (by omega)).trans (f1 id k h1 (by omega)))⟩
theorem xr_allNo (hR : xR M L T) (hL : L ≤ 96) (hb : ∀ k, k < L → T k ≤ 255) {p j d i : Nat} (h17 : M 147 17 = nI (p + 1)) (hp : p ≤ 200) (hj : j ≤ 47) (hd : tn (T p) = some d) (hi : i < d) (hg : ∀ i', i' < i → ∃ v, td L T (p + 1 + i') = some v) (hz : td L T (p + 1 + i) = none) : ∃ m', f_X12_readsAll (nI (T p)) (nI (3 * j)) M = some (0, m') ∧ m' 147 17 = nI (p + 1 + i) := by
  rcases tn_cases hd with hc | hc | hc | hc | hc | hc | hc | hc
  · -- 106
    have ec : T p = 106 := hc
    have e0 : tn 106 = some 0 := rfl
    rw [ec, e0] at hd
    obtain rfl := Option.some.inj hd
    omega
  · -- 100
    have ec : T p = 100 := hc
    have e0 : tn 100 = some 1 := rfl
    rw [ec, e0] at hd
    obtain rfl := Option.some.inj hd
    rw [ec, ra_100]
    by_cases q0 : i = 0
    · subst q0
      obtain ⟨m1, r1, a1⟩ := xr_digNo hR hL hb (p := 3 * j) (cnt := 1) (i := 0) h17 (by omega) (by omega) (by decide) (by decide) (fun j hj => by omega) hz
      have r1 : f_X12_readsDigits (nI (3 * j)) 1 M = some (0, m1) := r1
      rw [r1, mt_b2E, mt_ck_t (Or.inl rfl)]
      exact ⟨m1, rfl, a1⟩
    · omega
  · -- 114
    have ec : T p = 114 := hc
    have e0 : tn 114 = some 1 := rfl
    rw [ec, e0] at hd
    obtain rfl := Option.some.inj hd
    rw [ec, ra_114]
    by_cases q0 : i = 0
    · subst q0
      obtain ⟨m1, r1, a1⟩ := xr_digNo hR hL hb (p := 3 * j) (cnt := 1) (i := 0) h17 (by omega) (by omega) (by decide) (by decide) (fun j hj => by omega) hz
      have r1 : f_X12_readsDigits (nI (3 * j)) 1 M = some (0, m1) := r1
      rw [r1, mt_b2E, mt_ck_t (Or.inl rfl)]
      exact ⟨m1, rfl, a1⟩
    · omega
  · -- 107
    have ec : T p = 107 := hc
    have e0 : tn 107 = some 2 := rfl
    rw [ec, e0] at hd
    obtain rfl := Option.some.inj hd
    rw [ec, ra_107]
    by_cases q0 : i = 0
    · subst q0
      obtain ⟨m1, r1, a1⟩ := xr_digNo hR hL hb (p := 3 * j) (cnt := 1) (i := 0) h17 (by omega) (by omega) (by decide) (by decide) (fun j hj => by omega) hz
      have r1 : f_X12_readsDigits (nI (3 * j)) 1 M = some (0, m1) := r1
      rw [r1, mt_b2E, if_pos rfl]
      exact ⟨m1, rfl, a1⟩
    · obtain ⟨m1, r1, a1, b1, R1, f1⟩ := xr_dig hR hL hb (p := 3 * j) (cnt := 1) h17 (by omega) (by omega) (by decide) (fun i' hi' => hg i' (by omega))
      have r1 : f_X12_readsDigits (nI (3 * j)) 1 M = some (1, m1) := r1
      rw [r1, mt_b2E, if_neg (by decide), nI_1]
      obtain ⟨m2, r2, a2⟩ := xr_digNo R1 hL hb (p := 3 * j + 1) (cnt := 1) (i := i - 1) a1 (by omega) (by omega) (by decide) (by omega) (fun j' hj' => by have := hg (1 + j') (by omega); rwa [← Nat.add_assoc] at this) (by rw [show p + 1 + 1 + (i - 1) = p + 1 + i by omega]; exact hz)
      have r2 : f_X12_readsDigits (nI (3 * j + 1)) 1 m1 = some (0, m2) := r2
      rw [r2, mt_b2E, if_pos rfl]
      exact ⟨m2, rfl, by rw [a2]; congr 1; omega⟩
  · -- 119
    have ec : T p = 119 := hc
    have e0 : tn 119 = some 2 := rfl
    rw [ec, e0] at hd
    obtain rfl := Option.some.inj hd
    rw [ec, ra_119]
    by_cases q0 : i = 0
    · subst q0
      obtain ⟨m1, r1, a1⟩ := xr_digNo hR hL hb (p := 3 * j) (cnt := 1) (i := 0) h17 (by omega) (by omega) (by decide) (by decide) (fun j hj => by omega) hz
      have r1 : f_X12_readsDigits (nI (3 * j)) 1 M = some (0, m1) := r1
      rw [r1, mt_b2E, if_pos rfl]
      exact ⟨m1, rfl, a1⟩
    · obtain ⟨m1, r1, a1, b1, R1, f1⟩ := xr_dig hR hL hb (p := 3 * j) (cnt := 1) h17 (by omega) (by omega) (by decide) (fun i' hi' => hg i' (by omega))
      have r1 : f_X12_readsDigits (nI (3 * j)) 1 M = some (1, m1) := r1
      rw [r1, mt_b2E, if_neg (by decide), nI_1]
      obtain ⟨m2, r2, a2⟩ := xr_digNo R1 hL hb (p := 3 * j + 1) (cnt := 1) (i := i - 1) a1 (by omega) (by omega) (by decide) (by omega) (fun j' hj' => by have := hg (1 + j') (by omega); rwa [← Nat.add_assoc] at this) (by rw [show p + 1 + 1 + (i - 1) = p + 1 + i by omega]; exact hz)
      have r2 : f_X12_readsDigits (nI (3 * j + 1)) 1 m1 = some (0, m2) := r2
      rw [r2, mt_b2E, if_pos rfl]
      exact ⟨m2, rfl, by rw [a2]; congr 1; omega⟩
  · -- 120
    have ec : T p = 120 := hc
    have e0 : tn 120 = some 2 := rfl
    rw [ec, e0] at hd
    obtain rfl := Option.some.inj hd
    rw [ec, ra_120]
    by_cases q0 : i = 0
    · subst q0
      obtain ⟨m1, r1, a1⟩ := xr_digNo hR hL hb (p := 3 * j) (cnt := 1) (i := 0) h17 (by omega) (by omega) (by decide) (by decide) (fun j hj => by omega) hz
      have r1 : f_X12_readsDigits (nI (3 * j)) 1 M = some (0, m1) := r1
      rw [r1, mt_b2E, if_pos rfl]
      exact ⟨m1, rfl, a1⟩
    · obtain ⟨m1, r1, a1, b1, R1, f1⟩ := xr_dig hR hL hb (p := 3 * j) (cnt := 1) h17 (by omega) (by omega) (by decide) (fun i' hi' => hg i' (by omega))
      have r1 : f_X12_readsDigits (nI (3 * j)) 1 M = some (1, m1) := r1
      rw [r1, mt_b2E, if_neg (by decide), nI_1]
      obtain ⟨m2, r2, a2⟩ := xr_digNo R1 hL hb (p := 3 * j + 1) (cnt := 1) (i := i - 1) a1 (by omega) (by omega) (by decide) (by omega) (fun j' hj' => by have := hg (1 + j') (by omega); rwa [← Nat.add_assoc] at this) (by rw [show p + 1 + 1 + (i - 1) = p + 1 + i by omega]; exact hz)
      have r2 : f_X12_readsDigits (nI (3 * j + 1)) 1 m1 = some (0, m2) := r2
      rw [r2, mt_b2E, if_pos rfl]
      exact ⟨m2, rfl, by rw [a2]; congr 1; omega⟩
  · -- 115
    have ec : T p = 115 := hc
    have e0 : tn 115 = some 3 := rfl
    rw [ec, e0] at hd
    obtain rfl := Option.some.inj hd
    rw [ec, ra_115]
    by_cases q0 : i = 0
    · subst q0
      obtain ⟨m1, r1, a1⟩ := xr_digNo hR hL hb (p := 3 * j) (cnt := 1) (i := 0) h17 (by omega) (by omega) (by decide) (by decide) (fun j hj => by omega) hz
      have r1 : f_X12_readsDigits (nI (3 * j)) 1 M = some (0, m1) := r1
      rw [r1, mt_b2E, if_pos rfl]
      exact ⟨m1, rfl, a1⟩
    · obtain ⟨m1, r1, a1, b1, R1, f1⟩ := xr_dig hR hL hb (p := 3 * j) (cnt := 1) h17 (by omega) (by omega) (by decide) (fun i' hi' => hg i' (by omega))
      have r1 : f_X12_readsDigits (nI (3 * j)) 1 M = some (1, m1) := r1
      rw [r1, mt_b2E, if_neg (by decide), nI_1]
      obtain ⟨m2, r2, a2⟩ := xr_digNo R1 hL hb (p := 3 * j + 1) (cnt := 2) (i := i - 1) a1 (by omega) (by omega) (by decide) (by omega) (fun j' hj' => by have := hg (1 + j') (by omega); rwa [← Nat.add_assoc] at this) (by rw [show p + 1 + 1 + (i - 1) = p + 1 + i by omega]; exact hz)
      have r2 : f_X12_readsDigits (nI (3 * j + 1)) 2 m1 = some (0, m2) := r2
      rw [r2, mt_b2E, if_pos rfl]
      exact ⟨m2, rfl, by rw [a2]; congr 1; omega⟩
  · -- 116
    have ec : T p = 116 := hc
    have e0 : tn 116 = some 3 := rfl
    rw [ec, e0] at hd
    obtain rfl := Option.some.inj hd
    rw [ec, ra_116]
    by_cases q0 : i = 0
    · subst q0
      obtain ⟨m1, r1, a1⟩ := xr_digNo hR hL hb (p := 3 * j) (cnt := 1) (i := 0) h17 (by omega) (by omega) (by decide) (by decide) (fun j hj => by omega) hz
      have r1 : f_X12_readsDigits (nI (3 * j)) 1 M = some (0, m1) := r1
      rw [r1, mt_b2E, if_pos rfl]
      exact ⟨m1, rfl, a1⟩
    · obtain ⟨m1, r1, a1, b1, R1, f1⟩ := xr_dig hR hL hb (p := 3 * j) (cnt := 1) h17 (by omega) (by omega) (by decide) (fun i' hi' => hg i' (by omega))
      have r1 : f_X12_readsDigits (nI (3 * j)) 1 M = some (1, m1) := r1
      rw [r1, mt_b2E, if_neg (by decide), nI_1]
      by_cases q1 : i = 1
      · subst q1
        obtain ⟨m2, r2, a2⟩ := xr_digNo R1 hL hb (p := 3 * j + 1) (cnt := 1) (i := 0) a1 (by omega) (by omega) (by decide) (by decide) (fun j' hj' => by omega) hz
        have r2 : f_X12_readsDigits (nI (3 * j + 1)) 1 m1 = some (0, m2) := r2
        rw [r2, mt_b2E, if_pos rfl]
        exact ⟨m2, rfl, a2⟩
      · have q2 : i = 2 := by omega
        subst q2
        obtain ⟨m2, r2, a2, b2, R2, f2⟩ := xr_dig R1 hL hb (p := 3 * j + 1) (cnt := 1) a1 (by omega) (by omega) (by decide) (fun i' hi' => by have := hg (1 + i') (by omega); rwa [← Nat.add_assoc] at this)
        have r2 : f_X12_readsDigits (nI (3 * j + 1)) 1 m1 = some (1, m2) := r2
        have e3 : nI (3 * j) + (2 : Int32) = nI (3 * j + 2) := nI_add _ 2
        rw [r2, mt_b2E, if_neg (by decide), e3]
        obtain ⟨m3, r3, a3⟩ := xr_digNo R2 hL hb (p := 3 * j + 2) (cnt := 1) (i := 0) a2 (by omega) (by omega) (by decide) (by decide) (fun j' hj' => by omega) hz
        have r3 : f_X12_readsDigits (nI (3 * j + 2)) 1 m2 = some (0, m3) := r3
        rw [r3, mt_b2E, if_pos rfl]
        exact ⟨m3, rfl, a3⟩
end XP

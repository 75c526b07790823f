/-! FRACTIONS: class and reference -/
theorem lq_0 : (0 : Int64) = lN 0 := rfl
theorem lq_1 : (1 : Int64) = lN 1 := rfl
theorem lq_9 : (9 : Int64) = lN 9 := rfl
theorem lq_10 : (10 : Int64) = lN 10 := rfl
theorem lq_e0 {q : Nat} (hq : q < 2 ^ 63) : (lN q = 0) ↔ q = 0 := by rw [lq_0]; exact pk_lEQ hq (by decide)
/-- a step of Euclid's: the product halves -/
def lq_I (i p q : Nat) : Prop := p < 2 ^ 45 ∧ q < 2 ^ 45 ∧ (i = 0 ∨ q < p) ∧ p * q < 2 ^ (91 - (i - 1))
theorem lq_ini {p q : Nat} (hp : p < 2 ^ 45) (hq : q < 2 ^ 45) : lq_I 0 p q := by
  refine ⟨hp, hq, Or.inl rfl, ?_⟩
  have h1 : p * q ≤ 2 ^ 45 * 2 ^ 45 := Nat.mul_le_mul (by omega) (by omega)
  have h2 : (2 : Nat) ^ 45 * 2 ^ 45 < 2 ^ (91 - (0 - 1)) := by decide
  omega
theorem lq_step {i p q : Nat} (h : lq_I i p q) (hi : i < 92) (hq : q ≠ 0) : lq_I (i + 1) q (p % q) := by
  obtain ⟨h1, h2, h3, h4⟩ := h
  have hm : p % q < q := Nat.mod_lt _ (by omega)
  refine ⟨h2, by omega, Or.inr hm, ?_⟩
  rw [Nat.add_sub_cancel]
  have hd : p = q * (p / q) + p % q := (Nat.div_add_mod p q).symm
  by_cases z : q ≤ p
  · have hp1 : 1 ≤ p / q := Nat.div_pos z (by omega)
    have hq1 : q ≤ q * (p / q) := Nat.le_mul_of_pos_right q hp1
    have h5 : 2 * (p % q) ≤ p := by omega
    have h6 : q * (2 * (p % q)) ≤ q * p := Nat.mul_le_mul_left q h5
    have h7 : q * (2 * (p % q)) = 2 * (q * (p % q)) := by rw [Nat.mul_left_comm]
    rw [Nat.mul_comm p q] at h4
    by_cases z0 : i = 0
    · subst z0
      show q * (p % q) < 2 ^ (91 - (0 - 1))
      omega
    · have e : 2 ^ (91 - (i - 1)) = 2 * 2 ^ (91 - i) := by
        rw [show 91 - (i - 1) = 91 - i + 1 by omega, Nat.pow_succ, Nat.mul_comm]
      omega
  · have z0 : i = 0 := h3.resolve_right (by omega)
    subst z0
    have h5 : p % q = p := Nat.mod_eq_of_lt (by omega)
    rw [h5, Nat.mul_comm]
    exact h4
theorem lq_end {p q : Nat} (h : lq_I 92 p q) : q = 0 := by
  obtain ⟨h1, h2, h3, h4⟩ := h
  have h5 : q < p := h3.resolve_left (by decide)
  have h6 : p * q < 1 := h4
  have h7 : p * q = 0 := by omega
  rcases Nat.mul_eq_zero.mp h7 with z | z
  · omega
  · exact z
theorem lq_gcd {p q : Nat} : Nat.gcd p q = Nat.gcd q (p % q) := by
  rw [Nat.gcd_comm p q, Nat.gcd_rec q p, Nat.gcd_comm]
theorem xl_gcd {a b : Nat} (ha : a < 2 ^ 45) (hb : b < 2 ^ 45) : f_X11_greatestDivisor (lN a) (lN b) = some (lN (Nat.gcd a b)) := by
  unfold f_X11_greatestDivisor
  refine mt_lz3 (P := fun r => r = some (lN (Nat.gcd a b))) (fun i x y z => z = nI i ∧ ∃ p q, x = lN p ∧ y = lN q ∧ Nat.gcd p q = Nat.gcd a b ∧ lq_I i p q) 92 (by decide) ?_ ?_ ⟨rfl, a, b, rfl, rfl, rfl, lq_ini ha hb⟩
  · rintro i hi x y z ⟨rfl, p, q, rfl, rfl, hg, hI⟩ k
    have hp63 : p < 2 ^ 63 := by have := hI.1; omega
    have hq63 : q < 2 ^ 63 := by have := hI.2.1; omega
    rw [mi_1000, if_neg (nI_ge (show i < 1000 by omega) (by omega))]
    by_cases z : q = 0
    · right
      subst z
      rw [if_pos ((lg_cmp_eq (lN 0) 0).mpr rfl), ← hg, Nat.gcd_zero_right]
    · left
      have zn : ¬ lN q = 0 := fun w => z ((lq_e0 hq63).mp w)
      rw [if_neg (fun w => zn ((lg_cmp_eq _ _).mp w)), mt_ck_t zn, pk_lRem hp63 (by omega) hq63, mt_ltE, mt_ltE, nI_1]
      exact ⟨_, _, _, ⟨rfl, q, p % q, rfl, rfl, by rw [← lq_gcd]; exact hg, lq_step hI hi z⟩, rfl⟩
  · rintro x y z ⟨rfl, p, q, rfl, rfl, hg, hI⟩ k
    have hq0 := lq_end hI
    subst hq0
    rw [mi_1000, if_neg (nI_ge (show 92 < 1000 by decide) (by decide)), if_pos ((lg_cmp_eq (lN 0) 0).mpr rfl), ← hg, Nat.gcd_zero_right]
theorem xl_gcd2 {a b : Nat} (ha : a < 2 ^ 45) (hb : b < 2 ^ 45) : f_X12_divisor (lN a) (lN b) = some (lN (Nat.gcd a b)) := by
  unfold f_X12_divisor
  refine mt_lz2 (P := fun r => r = some (lN (Nat.gcd a b))) (fun i x y => ∃ p q, x = lN p ∧ y = lN q ∧ Nat.gcd p q = Nat.gcd a b ∧ lq_I i p q) 92 (by decide) ?_ ?_ ⟨a, b, rfl, rfl, rfl, lq_ini ha hb⟩
  · rintro i hi x y ⟨p, q, rfl, rfl, hg, hI⟩ k
    have hp63 : p < 2 ^ 63 := by have := hI.1; omega
    have hq63 : q < 2 ^ 63 := by have := hI.2.1; omega
    by_cases z : q = 0
    · right
      subst z
      rw [if_pos ((lg_cmp_eq (lN 0) 0).mpr rfl), ← hg, Nat.gcd_zero_right]
    · left
      have zn : ¬ lN q = 0 := fun w => z ((lq_e0 hq63).mp w)
      rw [if_neg (fun w => zn ((lg_cmp_eq _ _).mp w)), mt_ck_t zn, pk_lRem hp63 (by omega) hq63, mt_ltE]
      exact ⟨_, _, ⟨q, p % q, rfl, rfl, by rw [← lq_gcd]; exact hg, lq_step hI hi z⟩, rfl⟩
  · rintro x y ⟨p, q, rfl, rfl, hg, hI⟩ k
    have hq0 := lq_end hI
    subst hq0
    rw [if_pos ((lg_cmp_eq (lN 0) 0).mpr rfl), ← hg, Nat.gcd_zero_right]
theorem xl_part {a b : Nat} (ha : a < 2 ^ 45) (hb : b < 2 ^ 45) (hb0 : 0 < b) (w : Int32) : f_X11_partOf (lN a) (lN b) w = some (lN ((if w = 0 then a else b) / Nat.gcd a b)) := by
  have hg0 : 0 < Nat.gcd a b := Nat.gcd_pos_of_pos_right a hb0
  have hgl : Nat.gcd a b ≤ b := Nat.gcd_le_right a hb0
  have zn : ¬ lN (Nat.gcd a b) = 0 := fun q => by have := (lq_e0 (by omega)).mp q; omega
  have zc : ¬ lg_cmp (lN (Nat.gcd a b)) 0 ≤ 0 := fun q => by
    have h := (lg_cmp_le _ _).mp q
    rw [lq_0, pk_lLE (by omega) (by decide)] at h
    omega
  simp only [f_X11_partOf, xl_gcd ha hb, mt_b1E, mt_ltE, if_neg zc, mt_ck_t zn]
  by_cases q : w = 0
  · rw [if_pos q, if_pos q, pk_lDiv (by omega) hg0 (by omega)]
  · rw [if_neg q, if_neg q, pk_lDiv (by omega) hg0 (by omega)]
theorem xl_part2 {a b : Nat} (ha : a < 2 ^ 45) (hb : b < 2 ^ 45) (hb0 : 0 < b) (w : Int32) : f_X12_partOf (lN a) (lN b) w = some (lN ((if w = 0 then a else b) / Nat.gcd a b)) := by
  have hg0 : 0 < Nat.gcd a b := Nat.gcd_pos_of_pos_right a hb0
  have hgl : Nat.gcd a b ≤ b := Nat.gcd_le_right a hb0
  have zn : ¬ lN (Nat.gcd a b) = 0 := fun q => by have := (lq_e0 (by omega)).mp q; omega
  simp only [f_X12_partOf, xl_gcd2 ha hb, mt_b1E, mt_ltE, mt_ck_t zn]
  by_cases q : w = 0
  · rw [if_pos q, if_pos q, pk_lDiv (by omega) hg0 (by omega)]
  · rw [if_neg q, if_neg q, pk_lDiv (by omega) hg0 (by omega)]
/-- how sure a tick is -/
def sp_su (f s : Nat) (w : Int32) : Nat := (if w = 0 then (f - 1) * (if s = 1 then 9 else 1) else (f - 1) * (if s = 1 then 9 else 1) + (if s = 1 then 1 else 9)) / Nat.gcd ((f - 1) * (if s = 1 then 9 else 1)) ((f - 1) * (if s = 1 then 9 else 1) + (if s = 1 then 1 else 9))
theorem xl_sure {f s : Nat} {w : Int32} (hf : 2 ≤ f) (hf2 : f ≤ 99) (hs : s ≤ 1) (hw : w = 0 ∨ w = 1) (M : mt_M) : f_X11_sure (nI f) (nI s) w M = some (lN (sp_su f s w), M) := by
  have e1 : f_X11_outside (nI f) 2 99 = some 0 := by
    unfold f_X11_outside
    rw [mi_2, mi_99, if_pos (nI_le hf (by omega)), if_pos (nI_le hf2 (by omega))]
  have e2 : f_X11_isOneOf (nI s) 1 = some 1 := by rcases (show s = 0 ∨ s = 1 by omega) with rfl | rfl <;> rfl
  have e3 : f_X11_isOneOf w 1 = some 1 := by rcases hw with rfl | rfl <;> rfl
  have e4 : f_X11_firstOf 0 1 (-2) = some 0 := rfl
  have e5 : (nI f).toInt64 - (1 : Int64) = lN (f - 1) := by rw [nI_l (by omega)]; exact lN_sub (b := 1) (by omega)
  have e9 : (9 : Int32).toInt64 = lN 9 := nI_l (n := 9) (by decide)
  have e1' : (1 : Int32).toInt64 = lN 1 := nI_l (n := 1) (by decide)
  simp only [f_X11_sure, e1, e2, e3, e4, mt_b1E, mt_ltE, mt_10, if_false, if_true, e5]
  unfold sp_su
  rcases (show s = 0 ∨ s = 1 by omega) with rfl | rfl
  · rw [if_neg (show ¬ nI 0 = 1 by decide), if_neg (show ¬ nI 0 = 1 by decide), e1', lN_mul, lq_9, lN_add, xl_part (by omega) (by omega) (by omega), mt_b1E]
    rfl
  · rw [if_pos (show nI 1 = 1 from rfl), if_pos (show nI 1 = 1 from rfl), e9, lN_mul, lq_1, lN_add, xl_part (by omega) (by omega) (by omega), mt_b1E]
    rfl
theorem xl_sure2 {f s : Nat} {w : Int32} (hf : 2 ≤ f) (hf2 : f ≤ 99) (hs : s ≤ 1) (hw : w = 0 ∨ w = 1) (M : mt_M) : f_X12_sure (nI f) (nI s) w M = some (lN (sp_su f s w), M) := by
  have e1 : f_X12_bound (nI f) 2 99 = some 0 := by
    unfold f_X12_bound
    rw [mi_2, mi_99, if_pos (nI_le hf (by omega)), if_pos (nI_le hf2 (by omega))]
  have e2 : f_X12_isIn (nI s) 0 1 = some 1 := by rcases (show s = 0 ∨ s = 1 by omega) with rfl | rfl <;> rfl
  have e3 : f_X12_isIn w 0 1 = some 1 := by rcases hw with rfl | rfl <;> rfl
  have e5 : (nI f - (1 : Int32)).toInt64 = lN (f - 1) := by rw [mi_1, pk_sub (by omega)]; exact nI_l (by omega)
  simp only [f_X12_sure, e1, e2, e3, mt_b1E, mt_ltE, mt_10, if_false, if_true, e5]
  unfold sp_su
  rcases (show s = 0 ∨ s = 1 by omega) with rfl | rfl
  · rw [if_neg (show ¬ nI 0 = 1 by decide), if_neg (show ¬ nI 0 = 1 by decide), lq_1, lN_mul, lq_9, lN_add, xl_part2 (by omega) (by omega) (by omega), mt_b1E]
    rfl
  · rw [if_pos (show nI 1 = 1 from rfl), if_pos (show nI 1 = 1 from rfl), lq_9, lN_mul, lq_1, lN_add, xl_part2 (by omega) (by omega) (by omega), mt_b1E]
    rfl
/-! flour -/
def fl_D (u : Nat) : Nat → Nat → Nat
  | 0, k => if k = 0 then 1 else 0
  | n + 1, k => (10 - u) * fl_D u n k + (if k = 0 then 0 else u * fl_D u n (k - 1))
def fl_P : Nat → Nat → Nat
  | _, 0 => 1
  | 0, _ + 1 => 0
  | n + 1, k + 1 => fl_P n (k + 1) + fl_P n k
theorem fl_P_0 (n : Nat) : fl_P n 0 = 1 := by cases n <;> rfl
theorem fl_P_z : ∀ (n k : Nat), n < k → fl_P n k = 0
  | 0, k + 1, _ => rfl
  | n + 1, k + 1, h => by
    simp only [fl_P]
    rw [fl_P_z n (k + 1) (by omega), fl_P_z n k (by omega)]
theorem fl_D_P (u : Nat) : ∀ n k, fl_D u n k = fl_P n k * u ^ k * (10 - u) ^ (n - k)
  | 0, 0 => by simp [fl_D, fl_P]
  | 0, k + 1 => by simp [fl_D, fl_P]
  | n + 1, 0 => by
    simp only [fl_D, if_true]
    rw [fl_D_P u n 0, fl_P_0, fl_P_0, Nat.sub_zero, Nat.sub_zero, Nat.pow_succ]
    simp only [Nat.pow_zero, Nat.mul_one, Nat.one_mul, Nat.add_zero]
    exact Nat.mul_comm _ _
  | n + 1, k + 1 => by
    simp only [fl_D, fl_P]
    rw [if_neg (by omega), Nat.add_sub_cancel, fl_D_P u n (k + 1), fl_D_P u n k, Nat.add_sub_add_right, Nat.add_mul, Nat.add_mul, Nat.pow_succ]
    have e2 : u * (fl_P n k * u ^ k * (10 - u) ^ (n - k)) = fl_P n k * (u ^ k * u) * (10 - u) ^ (n - k) := by ac_rfl
    rw [e2]
    congr 1
    by_cases h : n < k + 1
    · rw [fl_P_z n (k + 1) h]; simp
    · have e : (10 - u) ^ (n - k) = (10 - u) ^ (n - (k + 1)) * (10 - u) := by rw [← Nat.pow_succ]; congr 1; omega
      rw [e]
      ac_rfl
def fl_C (n : Nat) : Nat → Nat
  | 0 => 1
  | k + 1 => fl_C n k * (n - k) / (k + 1)
theorem kd_fl : ∀ n, n < 13 → ∀ k, k < 13 → (k ≤ n → fl_C n k = fl_P n k) ∧ fl_C n k ≤ 1000 := by decide +kernel
def fl_S (u n : Nat) : Nat → Nat
  | 0 => 0
  | k + 1 => fl_S u n k + fl_C n k * u ^ k * (10 - u) ^ (n - k)
theorem kd_fs : ∀ u, u < 11 → ∀ n, n < 13 → ∀ s, s < 10 → fl_S u n s < 2 ^ 45 := by decide +kernel
theorem fl_sum {u n s : Nat} (hn : n ≤ 12) (hs : s ≤ 9) : sp_sm s (fl_D u n) = fl_S u n (min s (n + 1)) := by
  have key : ∀ m, m ≤ n + 1 → m ≤ 9 → sp_sm m (fl_D u n) = fl_S u n m := by
    intro m
    induction m with
    | zero => intro _ _; rfl
    | succ m ih =>
      intro h1 h2
      simp only [sp_sm, fl_S]
      rw [ih (by omega) (by omega), fl_D_P, (kd_fl n (by omega) m (by omega)).1 (by omega)]
  by_cases h : s ≤ n + 1
  · rw [Nat.min_eq_left h]; exact key s h hs
  · rw [Nat.min_eq_right (by omega), ← key (n + 1) (Nat.le_refl _) (by omega)]
    obtain ⟨d, rfl⟩ : ∃ d, s = n + 1 + d := ⟨s - (n + 1), by omega⟩
    clear h hs
    induction d with
    | zero => rfl
    | succ d ih =>
      show sp_sm (n + 1 + d) (fl_D u n) + fl_D u n (n + 1 + d) = _
      rw [ih, fl_D_P, fl_P_z n _ (by omega)]
      simp
def sp_fl (s n u : Nat) (w : Int32) : Nat := (if w = 0 then fl_S u n (min s (n + 1)) else 10 ^ n) / Nat.gcd (fl_S u n (min s (n + 1))) (10 ^ n)
theorem xl_power {b k : Nat} (hb : b ≤ 10) (hk : k ≤ 12) : f_X11_power (nI b) (nI k) = some (lN (b ^ k)) := by
  unfold f_X11_power
  refine mt_lz2 (P := fun r => r = some (lN (b ^ k))) (fun i x y => x = lN (b ^ i) ∧ y = nI i) k (by omega) ?_ ?_ ⟨rfl, rfl⟩
  · rintro i hi x y ⟨rfl, rfl⟩ c
    left
    refine ⟨_, _, ⟨rfl, rfl⟩, ?_⟩
    rw [if_neg (nI_ge hi (by omega)), nI_l (by omega), lN_mul, mt_ltE, mt_ltE, nI_1, Nat.pow_succ]
  · rintro x y ⟨rfl, rfl⟩ c
    rw [if_pos (nI_le (Nat.le_refl _) (by omega))]
theorem kd_10 : ∀ n, n < 13 → 10 ^ n < 2 ^ 45 ∧ 0 < 10 ^ n := by decide +kernel
theorem xl_flour {s n u : Nat} {w : Int32} (hs : s ≤ 9) (hn : n ≤ 12) (hu : u ≤ 10) (hw : w = 0 ∨ w = 1) (M : mt_M) : f_X11_flour (nI s) (nI n) (nI u) w M = some (lN (sp_fl s n u w), M) := by
  have e3 : f_X11_isOneOf w 1 = some 1 := by rcases hw with rfl | rfl <;> rfl
  have hf := kd_fs u (by omega) n (by omega) (min s (n + 1)) (by omega)
  obtain ⟨ht, ht0⟩ := kd_10 n (by omega)
  have ex : mt_b1 (f_X11_power 10 (nI n)) (fun r28 => mt_b1 (f_X11_partOf (lN (fl_S u n (min s (n + 1)))) r28 w) fun r30 => some (r30, M)) = some (lN (sp_fl s n u w), M) := by
    have e10 : f_X11_power 10 (nI n) = some (lN (10 ^ n)) := xl_power (b := 10) (by omega) hn
    rw [e10, mt_b1E, xl_part hf ht ht0, mt_b1E]
    rfl
  unfold f_X11_flour
  rw [mt_ltE, if_neg (nI_pos (by omega)), if_neg (nI_pos (by omega)), if_pos (nI_pos' (by omega)), mt_ltE, mi_9, if_neg (nI_nlt hs (by omega)), mi_12, if_neg (nI_nlt hn (by omega)), mi_10, if_pos (nI_le hu (by omega)), e3, mt_b1E, if_neg (by decide)]
  refine mt_lz3 (P := fun r => r = some (lN (sp_fl s n u w), M)) (fun i x y z => x = lN (fl_S u n i) ∧ y = lN (fl_C n i) ∧ z = nI i) (min s (n + 1)) (by omega) ?_ ?_ ⟨rfl, rfl, rfl⟩
  · rintro i hi x y z ⟨rfl, rfl, rfl⟩ k
    left
    refine ⟨_, _, _, ⟨rfl, rfl, rfl⟩, ?_⟩
    have hc := (kd_fl n (by omega) i (by omega)).2
    have hm : fl_C n i * (n - i) ≤ 1000 * 12 := Nat.mul_le_mul hc (by omega)
    have zn : ¬ (nI i + (1 : Int32)).toInt64 = 0 := by
      rw [nI_1, nI_l (by omega)]
      intro q
      have := (lq_e0 (by omega)).mp q
      omega
    rw [mt_ltE, if_neg (nI_ge (show i < s by omega) (by omega)), if_neg (nI_nlt (show i ≤ n by omega) (by omega)), xl_power hu (by omega), mt_b1E, pk_sub hu, pk_sub (show i ≤ n by omega), xl_power (by omega) (by omega), mt_b1E, mt_ltE, mt_ck_t zn, mt_ltE, mt_ltE, nI_1, nI_l (by omega), nI_l (by omega), lN_mul, lN_mul, lN_mul, lN_add, pk_lDiv (by omega) (by omega) (by omega)]
    rfl
  · rintro x y z ⟨rfl, rfl, rfl⟩ k
    rw [mt_ltE]
    by_cases q : s ≤ n + 1
    · rw [Nat.min_eq_left q] at ex ⊢
      rw [if_pos (nI_le (Nat.le_refl _) (by omega))]
      exact ex
    · rw [Nat.min_eq_right (by omega)] at ex ⊢
      rw [if_neg (nI_ge (by omega) (by omega)), if_pos (nI_lt (by omega) (by omega))]
      exact ex
theorem xl_flour2 {s n u : Nat} {w : Int32} (hs : s ≤ 9) (hn : n ≤ 12) (hu : u ≤ 10) (hw : w = 0 ∨ w = 1) (M : mt_M) (U : mt_U) : ∃ U', f_X12_flour (nI s) (nI n) (nI u) w M U = some (lN (sp_fl s n u w), M, U') := by
  have e3 : f_X12_isIn w 0 1 = some 1 := by rcases hw with rfl | rfl <;> rfl
  have hf := kd_fs u (by omega) n (by omega) (min s (n + 1)) (by omega)
  obtain ⟨ht, ht0⟩ := kd_10 n (by omega)
  unfold f_X12_flour
  rw [mt_ltE, mt_ltE, if_neg (nI_pos (by omega)), if_neg (nI_pos (by omega)), if_pos (nI_pos' (by omega)), mt_ltE, mi_9, if_neg (nI_nlt hs (by omega)), mi_12, if_neg (nI_nlt hn (by omega)), mi_10, if_pos (nI_le hu (by omega)), e3, mt_b1E, if_neg (by decide)]
  dsimp only
  rw [if_pos rfl]
  refine mt_lz2 (P := fun r => ∃ U', r = some (lN (sp_fl s n u w), M, U')) (fun i x U => x = nI i ∧ ∀ k, k < i → U k = lN (fl_D u 0 k)) 14 (by decide) ?_ ?_ ⟨rfl, fun k hk => by omega⟩
  · rintro i hi x U ⟨rfl, hU⟩ k
    left
    have i1 : vp_in (nI i) 14 := vp_in_nI (by omega) (by omega)
    have c1 : (nI i).toNatClampNeg = i := nI_clamp (by omega)
    refine ⟨nI (i + 1), vp_updL U i (lN (fl_D u 0 i)), ⟨rfl, fun j hj => ?_⟩, ?_⟩
    · by_cases q : j = i
      · subst q; exact pk_uLs
      · rw [pk_uLn q]; exact hU j (by omega)
    · rw [mi_14, if_neg (nI_ge hi (by omega))]
      simp only [mt_ltE]
      by_cases q : i = 0
      · subst q
        rw [if_pos (show nI 0 = 0 from rfl), mt_ci_t i1, nI_1, c1]
        rfl
      · have e : fl_D u 0 i = 0 := by simp [fl_D, q]
        rw [if_neg (nI_ne0 (by omega) (by omega)), mt_ci_t i1, nI_1, c1, e]
        rfl
  · rintro x U ⟨rfl, hU⟩ k
    rw [mi_14, if_pos (nI_le (Nat.le_refl _) (by omega))]
    refine mt_lz3 (P := fun r => ∃ U', r = some (lN (sp_fl s n u w), M, U')) (fun d x y U => x = lN (10 ^ d) ∧ y = nI d ∧ ∀ k, k < 14 → U k = lN (fl_D u d k)) n (by omega) ?_ ?_ ⟨rfl, rfl, hU⟩
    · rintro d hd x y U ⟨rfl, rfl, hU⟩ k2
      left
      rw [if_neg (nI_ge hd (by omega))]
      refine mt_lz2 (P := fun r => ∃ (x' : Int64) (y' : Int32) (U' : mt_U), (x' = lN (10 ^ (d + 1)) ∧ y' = nI (d + 1) ∧ ∀ k, k < 14 → U' k = lN (fl_D u (d + 1) k)) ∧ r = k2 x' y' U') (fun i (x : Int32) (U : mt_U) => x = nI (14 - i) + (-1) ∧ ∀ k, k < 14 → U k = lN (if 14 - i ≤ k then fl_D u (d + 1) k else fl_D u d k)) 14 (by decide) ?_ ?_ ⟨rfl, fun k hk => by rw [if_neg (by omega)]; exact hU k hk⟩
      · rintro i hi x U ⟨rfl, hU⟩ k3
        left
        have ex : nI (14 - i) + (-1) = nI (13 - i) := by rw [show 14 - i = 13 - i + 1 by omega]; exact pk_m1 _
        have i1 : vp_in (nI (13 - i)) 14 := vp_in_nI (by omega) (by omega)
        have c1 : (nI (13 - i)).toNatClampNeg = 13 - i := nI_clamp (by omega)
        have hb := hU (13 - i) (by omega)
        rw [if_neg (by omega)] at hb
        have e10 : (nI 10 - nI u).toInt64 = lN (10 - u) := by rw [pk_sub hu]; exact nI_l (by omega)
        refine ⟨nI (14 - (i + 1)) + (-1), vp_updL U (13 - i) (lN (fl_D u (d + 1) (13 - i))), ⟨rfl, fun j hj => ?_⟩, ?_⟩
        · by_cases q : j = 13 - i
          · subst q; rw [pk_uLs, if_pos (by omega)]
          · rw [pk_uLn q, hU j hj]
            by_cases z : 14 - i ≤ j
            · rw [if_pos z, if_pos (by omega)]
            · rw [if_neg z, if_neg (by omega)]
        · rw [ex, if_neg (nI_pos (by omega)), mt_ci_t i1]
          simp only [mt_ltE, e10, c1, hb]
          by_cases q : i = 13
          · subst q
            rw [if_pos (show nI (13 - 13) = 0 from rfl), mt_ci_t i1, lN_mul, lq_0, lN_add]
            rfl
          · have i2 : vp_in (nI (13 - i - 1)) 14 := vp_in_nI (by omega) (by omega)
            have c2 : (nI (13 - i - 1)).toNatClampNeg = 13 - i - 1 := nI_clamp (by omega)
            have hb2 := hU (13 - i - 1) (by omega)
            rw [if_neg (by omega)] at hb2
            have e1 : nI (13 - i) - (1 : Int32) = nI (13 - i - 1) := pk_sub (b := 1) (by omega)
            have eD : fl_D u (d + 1) (13 - i) = (10 - u) * fl_D u d (13 - i) + u * fl_D u d (13 - i - 1) := by
              simp only [fl_D]
              rw [if_neg (by omega)]
            rw [if_neg (nI_ne0 (by omega) (by omega)), e1, mt_ci_t i2, mt_ci_t i1, c2, hb2, nI_l (show u < 2 ^ 31 by omega), lN_mul, lN_mul, lN_add, ← eD, show 14 - (i + 1) = 13 - i by omega]
      · rintro x U ⟨rfl, hU⟩ k3
        rw [if_pos (show nI (14 - 14) + (-1) < 0 by decide), mt_ltE, mt_ltE, lq_10, lN_mul, nI_1]
        exact ⟨_, _, _, ⟨by rw [Nat.pow_succ], rfl, fun k hk => by rw [hU k hk, if_pos (by omega)]⟩, rfl⟩
    · rintro x y U ⟨rfl, rfl, hU⟩ k2
      rw [if_pos (nI_le (Nat.le_refl _) (by omega))]
      refine mt_lz2 (P := fun r => ∃ U', r = some (lN (sp_fl s n u w), M, U')) (fun i x y => x = lN (sp_sm i (fl_D u n)) ∧ y = nI i) s (by omega) ?_ ?_ ⟨rfl, rfl⟩
      · rintro i hi x y ⟨rfl, rfl⟩ k3
        left
        have i1 : vp_in (nI i) 14 := vp_in_nI (by omega) (by omega)
        have c1 : (nI i).toNatClampNeg = i := nI_clamp (by omega)
        refine ⟨_, _, ⟨rfl, rfl⟩, ?_⟩
        rw [if_neg (nI_ge hi (by omega)), mt_ci_t i1, mt_ltE, mt_ltE, c1, hU i (by omega), lN_add, nI_1]
        rfl
      · rintro x y ⟨rfl, rfl⟩ k3
        rw [if_pos (nI_le (Nat.le_refl _) (by omega)), fl_sum hn hs, xl_part2 hf ht ht0, mt_b1E]
        exact ⟨U, rfl⟩
/-- bars -/
def sp_ba (t c h : Nat) : Nat := if h / t ≤ c then 0 else 60
theorem xl_bars {t c h : Nat} (ht : 2 ≤ t) (ht2 : t ≤ 20) (hc : 1 ≤ c) (hc2 : c ≤ 9) (hh : h ≤ 99) (M : mt_M) : f_X11_bars (nI t) (nI c) (nI h) M = some (nI (sp_ba t c h), M) := by
  unfold f_X11_bars sp_ba
  have hd : h / t ≤ h := Nat.div_le_self h t
  rw [mt_ltE, mi_2, if_neg (nI_nlt ht (by omega)), mi_1, if_neg (nI_nlt hc (by omega)), if_pos (nI_pos' (by omega)), mt_ltE, mi_20, if_neg (nI_nlt ht2 (by omega)), mi_9, if_neg (nI_nlt hc2 (by omega)), mi_99, if_pos (nI_le hh (by omega)), mt_ck_t (nI_ne0 (by omega) (by omega)), pk_div (by omega) (by omega) (by omega)]
  by_cases q : h / t ≤ c
  · rw [if_pos (nI_le q (by omega)), if_pos q]; rfl
  · rw [if_neg (nI_ge (by omega) (by omega)), if_neg q]; rfl
theorem xl_bars2 {t c h : Nat} (ht : 2 ≤ t) (ht2 : t ≤ 20) (hc : 1 ≤ c) (hc2 : c ≤ 9) (hh : h ≤ 99) (M : mt_M) : f_X12_bars (nI t) (nI c) (nI h) M = some (nI (sp_ba t c h), M) := by
  unfold f_X12_bars sp_ba
  have hd : h / t ≤ h := Nat.div_le_self h t
  rw [mt_ltE, mt_ltE, mi_2, if_neg (nI_nlt ht (by omega)), mi_1, if_neg (nI_nlt hc (by omega)), if_pos (nI_pos' (by omega)), mt_ltE, mi_20, if_neg (nI_nlt ht2 (by omega)), mi_9, if_neg (nI_nlt hc2 (by omega)), mi_99, if_pos (nI_le hh (by omega))]
  dsimp only
  rw [if_pos rfl, mt_ck_t (nI_ne0 (by omega) (by omega)), pk_div (by omega) (by omega) (by omega)]
  by_cases q : h / t ≤ c
  · rw [if_pos (nI_le q (by omega)), if_pos q]; rfl
  · rw [if_neg (nI_ge (by omega) (by omega)), if_neg q]; rfl

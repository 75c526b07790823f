/-! WHO BUYS, WITHOUT HAVING HEARD -/
def sp_w1 (w a : Nat) : Nat := if w = 1 then a else if w = 3 then a else 0
def sp_w2 (w b : Nat) : Nat := if w = 2 then b else if w = 3 then b else 0
def sp_mh (A : hs_A) (t a b w : Nat) : Nat := (10 - sp_w1 w a) * (10 - sp_w2 w b) * sp_hr A t 0 + sp_w1 w a * sp_w2 w b * sp_hr A t 2
def sp_mb (A : hs_A) (t a b w : Nat) : Nat → Nat
  | 0 => 0
  | k + 1 => sp_mb A t a b w k + (if k / 2 = 1 then a else 10 - a) * (if k % 2 = 1 then b else 10 - b) * sp_hr A t (sp_w1 w (k / 2) + sp_w2 w (k % 2))
theorem sp_hr_1 (A : hs_A) (t : Nat) : sp_hr A t 1 = 0 := rfl
theorem sp_c1 : ∀ a, a < 11 → ∀ b, b < 11 → (10 - a) * (10 - b) + (10 - a) * b + a * (10 - b) + a * b = 100 ∧ (10 - a) * (10 - b) + (10 - a) * b = (10 - a) * 10 ∧ (10 - a) * (10 - b) + a * (10 - b) = 10 * (10 - b) := by decide +kernel
theorem sp_mb_4 (A : hs_A) (t : Nat) {a b w : Nat} (ha : a ≤ 10) (hb : b ≤ 10) (hw : w ≤ 3) : sp_mb A t a b w 4 = sp_mh A t a b w := by
  obtain ⟨c1, c2, c3⟩ := sp_c1 a (by omega) b (by omega)
  rcases (show w = 0 ∨ w = 1 ∨ w = 2 ∨ w = 3 by omega) with rfl | rfl | rfl | rfl
  · have e1 : sp_mb A t a b 0 4 = 0 + (10 - a) * (10 - b) * sp_hr A t 0 + (10 - a) * b * sp_hr A t 0 + a * (10 - b) * sp_hr A t 0 + a * b * sp_hr A t 0 := rfl
    have e2 : sp_mh A t a b 0 = (10 - 0) * (10 - 0) * sp_hr A t 0 + 0 * 0 * sp_hr A t 2 := rfl
    rw [e1, e2]
    simp only [Nat.mul_zero, Nat.zero_mul, Nat.add_zero, Nat.zero_add, Nat.sub_zero]
    rw [← Nat.add_mul, ← Nat.add_mul, ← Nat.add_mul, c1] <;> rfl
  · have e1 : sp_mb A t a b 1 4 = 0 + (10 - a) * (10 - b) * sp_hr A t 0 + (10 - a) * b * sp_hr A t 0 + a * (10 - b) * sp_hr A t 1 + a * b * sp_hr A t 1 := rfl
    have e2 : sp_mh A t a b 1 = (10 - a) * (10 - 0) * sp_hr A t 0 + a * 0 * sp_hr A t 2 := rfl
    rw [e1, e2]
    simp only [sp_hr_1, Nat.mul_zero, Nat.zero_mul, Nat.add_zero, Nat.zero_add, Nat.sub_zero]
    rw [← Nat.add_mul, c2]
  · have e1 : sp_mb A t a b 2 4 = 0 + (10 - a) * (10 - b) * sp_hr A t 0 + (10 - a) * b * sp_hr A t 1 + a * (10 - b) * sp_hr A t 0 + a * b * sp_hr A t 1 := rfl
    have e2 : sp_mh A t a b 2 = (10 - 0) * (10 - b) * sp_hr A t 0 + 0 * b * sp_hr A t 2 := rfl
    rw [e1, e2]
    simp only [sp_hr_1, Nat.mul_zero, Nat.zero_mul, Nat.add_zero, Nat.zero_add, Nat.sub_zero]
    rw [← Nat.add_mul, c3]
  · have e1 : sp_mb A t a b 3 4 = 0 + (10 - a) * (10 - b) * sp_hr A t 0 + (10 - a) * b * sp_hr A t 1 + a * (10 - b) * sp_hr A t 1 + a * b * sp_hr A t 2 := rfl
    have e2 : sp_mh A t a b 3 = (10 - a) * (10 - b) * sp_hr A t 0 + a * b * sp_hr A t 2 := rfl
    rw [e1, e2]
    simp only [sp_hr_1, Nat.mul_zero, Nat.zero_mul, Nat.add_zero, Nat.zero_add, Nat.sub_zero]
theorem sp_mh_le {A : hs_A} (hok : hs_ok A) {t : Nat} (ht : t < A 6 0) {a b w : Nat} (ha : a ≤ 10) (hb : b ≤ 10) : sp_mh A t a b w ≤ 22000 := by
  have h0 := sp_hr_le hok ht 0
  have h2 := sp_hr_le hok ht 2
  have b1 : sp_w1 w a ≤ 10 := by unfold sp_w1; split; exact ha; split; exact ha; exact Nat.zero_le _
  have b2 : sp_w2 w b ≤ 10 := by unfold sp_w2; split; exact hb; split; exact hb; exact Nat.zero_le _
  have m1 : (10 - sp_w1 w a) * (10 - sp_w2 w b) ≤ 10 * 10 := Nat.mul_le_mul (by omega) (by omega)
  have m2 : sp_w1 w a * sp_w2 w b ≤ 10 * 10 := Nat.mul_le_mul b1 b2
  have m3 := Nat.mul_le_mul m1 h0
  have m4 := Nat.mul_le_mul m2 h2
  unfold sp_mh
  omega
theorem n01 : (nI 0 = (1 : Int32)) = False := eq_false (by decide)
theorem n02 : (nI 0 = (2 : Int32)) = False := eq_false (by decide)
theorem n03 : (nI 0 = (3 : Int32)) = False := eq_false (by decide)
theorem n11 : (nI 1 = (1 : Int32)) = True := eq_true (by decide)
theorem n12 : (nI 1 = (2 : Int32)) = False := eq_false (by decide)
theorem n13 : (nI 1 = (3 : Int32)) = False := eq_false (by decide)
theorem n21 : (nI 2 = (1 : Int32)) = False := eq_false (by decide)
theorem n22 : (nI 2 = (2 : Int32)) = True := eq_true (by decide)
theorem n23 : (nI 2 = (3 : Int32)) = False := eq_false (by decide)
theorem n31 : (nI 3 = (1 : Int32)) = False := eq_false (by decide)
theorem n32 : (nI 3 = (2 : Int32)) = False := eq_false (by decide)
theorem n33 : (nI 3 = (3 : Int32)) = True := eq_true (by decide)
theorem nd0 : nI 0 / (2 : Int32) = nI 0 := by decide
theorem nd1 : nI 1 / (2 : Int32) = nI 0 := by decide
theorem nd2 : nI 2 / (2 : Int32) = nI 1 := by decide
theorem nd3 : nI 3 / (2 : Int32) = nI 1 := by decide
theorem nr0 : nI 0 - nI 0 * (2 : Int32) = nI 0 := by decide
theorem nr1 : nI 1 - nI 0 * (2 : Int32) = nI 1 := by decide
theorem nr2 : nI 2 - nI 1 * (2 : Int32) = nI 0 := by decide
theorem nr3 : nI 3 - nI 1 * (2 : Int32) = nI 1 := by decide
theorem nf0 : ((4 : Int32) ≤ nI 0) = False := eq_false (by decide)
theorem nf1 : ((4 : Int32) ≤ nI 1) = False := eq_false (by decide)
theorem nf2 : ((4 : Int32) ≤ nI 2) = False := eq_false (by decide)
theorem nf3 : ((4 : Int32) ≤ nI 3) = False := eq_false (by decide)
section XU
variable {M : mt_M} {A : hs_A} {t : Nat}
theorem xu_mean (hv : cv 13 M A) (hok : hs_ok A) (ht : t < A 6 0) {a b w : Nat} (ha : a ≤ 10) (hb : b ≤ 10) (hw : w ≤ 3) : f_X11_meanHarm (nI t) (nI a) (nI b) (nI w) M = some (nI (sp_mh A t a b w)) := by
  have h0 : f_X0_harmOf 13 (nI t) 0 M = some (nI (sp_hr A t 0)) := xc_harm hv hok ht (g := 0) (by decide)
  have h2 : f_X0_harmOf 13 (nI t) 2 M = some (nI (sp_hr A t 2)) := xc_harm hv hok ht (g := 2) (by decide)
  have key : ∀ p q, p ≤ 10 → q ≤ 10 → ((10 : Int32) - nI p) * ((10 : Int32) - nI q) * nI (sp_hr A t 0) + nI p * nI q * nI (sp_hr A t 2) = nI ((10 - p) * (10 - q) * sp_hr A t 0 + p * q * sp_hr A t 2) := fun p q hp hq => by
    rw [mi_10, pk_sub hp, pk_sub hq, pk_mul, pk_mul, pk_mul, pk_mul, nI_add]
  simp only [f_X11_meanHarm, mt_ltE, h0, h2, mt_b1E]
  rcases (show w = 0 ∨ w = 1 ∨ w = 2 ∨ w = 3 by omega) with rfl | rfl | rfl | rfl
  · simp only [n01, n02, n03, if_false]
    exact congrArg some (key 0 0 (by omega) (by omega))
  · simp only [n11, n12, n13, if_false, if_true]
    exact congrArg some (key a 0 (by omega) (by omega))
  · simp only [n21, n22, n23, if_false, if_true]
    exact congrArg some (key 0 b (by omega) (by omega))
  · simp only [n31, n32, n33, if_false, if_true]
    exact congrArg some (key a b (by omega) (by omega))
theorem xm_mean (hv : rm M A) (hok : hs_ok A) (ht : t < A 6 0) {a b w : Nat} (ha : a ≤ 10) (hb : b ≤ 10) (hw : w ≤ 3) : f_X12_meanBy (nI t) (nI a) (nI b) (nI w) M = some (nI (sp_mh A t a b w)) := by
  have h00 : f_X12_harmOf (nI t) (nI (0 + 0)) M = some (nI (sp_hr A t 0)) := xm_harm hv hok ht (g := 0) (by decide)
  have h01 : f_X12_harmOf (nI t) (nI (0 + 1)) M = some (nI (sp_hr A t 1)) := xm_harm hv hok ht (g := 1) (by decide)
  have h10 : f_X12_harmOf (nI t) (nI (1 + 0)) M = some (nI (sp_hr A t 1)) := xm_harm hv hok ht (g := 1) (by decide)
  have h11 : f_X12_harmOf (nI t) (nI (1 + 1)) M = some (nI (sp_hr A t 2)) := xm_harm hv hok ht (g := 2) (by decide)
  have ea : (10 : Int32) - nI a = nI (10 - a) := by rw [mi_10, pk_sub ha]
  have eb : (10 : Int32) - nI b = nI (10 - b) := by rw [mi_10, pk_sub hb]
  rw [← sp_mb_4 A t ha hb hw]
  unfold f_X12_meanBy
  refine mt_lz2 (P := fun r => r = some (nI (sp_mb A t a b w 4))) (fun i x y => x = nI (sp_mb A t a b w i) ∧ y = nI i) 4 (by decide) ?_ ?_ ⟨rfl, rfl⟩
  · rintro i hi x y ⟨rfl, rfl⟩ k
    left
    have hgo : ∀ j, i = j → ∀ o : Option Int32, o = k (nI (sp_mb A t a b w j + (if j / 2 = 1 then a else 10 - a) * (if j % 2 = 1 then b else 10 - b) * sp_hr A t (sp_w1 w (j / 2) + sp_w2 w (j % 2)))) (nI (j + 1)) → o = k (nI (sp_mb A t a b w (i + 1))) (nI (i + 1)) := by
      rintro j rfl o rfl
      rfl
    refine ⟨_, _, ⟨rfl, rfl⟩, ?_⟩
    rcases (show i = 0 ∨ i = 1 ∨ i = 2 ∨ i = 3 by omega) with rfl | rfl | rfl | rfl <;> rcases (show w = 0 ∨ w = 1 ∨ w = 2 ∨ w = 3 by omega) with rfl | rfl | rfl | rfl <;> refine hgo _ rfl _ ?_ <;>
      simp only [mt_ltE, nf0, nf1, nf2, nf3, if_false, if_true, nd0, nd1, nd2, nd3, nr0, nr1, nr2, nr3, n01, n02, n03, n11, n12, n13, n21, n22, n23, n31, n32, n33] <;> simp only [mi_0, nI_add, h00, h01, h10, h11, mt_b1E, ea, eb, pk_mul, nI_1] <;> rfl
  · rintro x y ⟨rfl, rfl⟩ k
    rw [mi_4, if_pos (nI_le (Nat.le_refl _) (by omega))]
/-- the best way -/
def sp_ub (A : hs_A) (t a b : Nat) : Nat → Nat
  | 0 => 0
  | i + 1 => if sp_mh A t a b (sp_ub A t a b i) ≤ sp_mh A t a b (i + 1) then sp_ub A t a b i else i + 1
theorem sp_ub_le (A : hs_A) (t a b i : Nat) : sp_ub A t a b i ≤ i := by
  induction i with
  | zero => exact Nat.le_refl _
  | succ i ih =>
    simp only [sp_ub]
    split
    · omega
    · omega
theorem sp_eo_0 {a b : Nat} (ha : a ≤ 10) (hb : b ≤ 10) : sp_eo (nI a) (nI b) 10 = 0 := by
  unfold sp_eo
  rw [if_neg, if_neg]
  · rintro (q | q)
    · exact nI_nlt ha (by omega) q
    · exact nI_nlt hb (by omega) q
  · rintro (q | q)
    · exact nI_pos (by omega) q
    · exact nI_pos (by omega) q
theorem sp_eo_n {a b : Int32} (h : sp_eo a b 10 = 0) : ∃ p q, p ≤ 10 ∧ q ≤ 10 ∧ a = nI p ∧ b = nI q := by
  unfold sp_eo at h
  by_cases h2 : a < 0 ∨ b < 0
  · rw [if_pos h2] at h; exact absurd h (by decide)
  · rw [if_neg h2] at h
    by_cases h3 : 10 < a ∨ 10 < b
    · rw [if_pos h3] at h; exact absurd h (by decide)
    · have key : ∀ (x : Int32), ¬ x < 0 → ¬ 10 < x → ∃ j, j ≤ 10 ∧ x = nI j := fun x q1 q2 => by
        obtain ⟨j, hj, rfl⟩ := nI_of q1
        exact ⟨j, by
          by_cases z : j ≤ 10
          · exact z
          · exact absurd (nI_lt (show 10 < j by omega) hj) q2, rfl⟩
      obtain ⟨p, p1, p2⟩ := key a (fun q => h2 (Or.inl q)) (fun q => h3 (Or.inl q))
      obtain ⟨q, q1, q2⟩ := key b (fun q => h2 (Or.inr q)) (fun q => h3 (Or.inr q))
      exact ⟨p, q, p1, q1, p2, q2⟩
theorem xm_tenths (a b : Int32) : f_X12_notTenths a b = some (sp_eo a b 10) := by
  unfold f_X12_notTenths sp_eo
  by_cases h1 : a < 0
  · rw [if_pos h1, if_pos (Or.inl h1)]
  · rw [if_neg h1]
    by_cases h2 : b < 0
    · rw [if_neg (Int32.not_le.mpr h2), if_pos (Or.inr h2)]
    · rw [if_pos (Int32.not_lt.mp h2), if_neg (show ¬ (a < 0 ∨ b < 0) from fun q => q.elim h1 h2)]
      by_cases h3 : 10 < a
      · rw [if_pos h3, if_pos (Or.inl h3)]
      · rw [if_neg h3]
        by_cases h4 : 10 < b
        · rw [if_neg (Int32.not_le.mpr h4), if_pos (Or.inr h4)]
        · rw [if_pos (Int32.not_lt.mp h4), if_neg (show ¬ (10 < a ∨ 10 < b) from fun q => q.elim h3 h4)]
theorem xu_unheard (hv : cv 13 M A) (hok : hs_ok A) (ht : t < A 6 0) {a b w : Nat} (ha : a ≤ 10) (hb : b ≤ 10) (hw : w ≤ 4) : f_X11_unheard (nI t) (nI a) (nI b) (nI w) M = some (nI (if w < 4 then sp_mh A t a b w else sp_ub A t a b 3), M) := by
  have e1 : f_X11_isOneOf (nI w) 4 = some 1 := by
    rw [xo_oneOf, if_neg]
    rintro (q | q)
    · exact nI_pos (by omega) q
    · exact nI_nlt hw (by omega) q
  have e2 : f_X11_eitherOutside (nI a) (nI b) 0 10 = some 0 := by rw [xo_either, sp_eo_0 ha hb]
  have e3 : f_X11_firstOf 0 1 (-2) = some 0 := rfl
  simp only [f_X11_unheard, xc_hasT hv hok.1 ht, mt_b1E, mt_ltE, mt_10, if_false, e1, e2, e3, if_true]
  by_cases q : w < 4
  · rw [if_neg (by rw [mi_4]; exact nI_ge q (by omega)), xu_mean hv hok ht ha hb (by omega), mt_b1E, if_pos q]
  · rw [if_pos (by rw [mi_4]; exact nI_le (by omega) (by omega)), if_neg q]
    refine mt_lz2 (P := fun r => r = some (nI (sp_ub A t a b 3), M)) (fun i x y => x = nI (sp_ub A t a b i) ∧ y = nI (i + 1)) 3 (by decide) ?_ ?_ ⟨rfl, rfl⟩
    · rintro i hi x y ⟨rfl, rfl⟩ k
      left
      have hbu := sp_ub_le A t a b i
      have l1 := sp_mh_le hok ht (w := i + 1) ha hb
      have l2 := sp_mh_le hok ht (w := sp_ub A t a b i) ha hb
      refine ⟨_, _, ⟨rfl, rfl⟩, ?_⟩
      rw [mi_4, if_neg (nI_ge (show i + 1 < 4 by omega) (by omega)), xu_mean hv hok ht ha hb (show i + 1 ≤ 3 by omega), xu_mean hv hok ht ha hb (show sp_ub A t a b i ≤ 3 by omega)]
      simp only [mt_b1E, mt_ltE, nI_1, sp_ub]
      by_cases q : sp_mh A t a b (sp_ub A t a b i) ≤ sp_mh A t a b (i + 1)
      · rw [if_pos (nI_le q (by omega)), if_pos q]
      · rw [if_neg (nI_ge (by omega) (by omega)), if_neg q]
    · rintro x y ⟨rfl, rfl⟩ k
      rw [mi_4, if_pos (nI_le (by decide) (by decide))]
theorem xm_unheard (hv : rm M A) (hok : hs_ok A) (ht : t < A 6 0) {a b w : Nat} (ha : a ≤ 10) (hb : b ≤ 10) (hw : w ≤ 4) : f_X12_unheard (nI t) (nI a) (nI b) (nI w) M = some (nI (if w < 4 then sp_mh A t a b w else sp_ub A t a b 3), M) := by
  have e1 : f_X12_isIn (nI w) 0 4 = some 1 := by
    rw [xo_isIn, if_neg]
    rintro (q | q)
    · exact nI_pos (by omega) q
    · exact nI_nlt hw (by omega) q
  have e2 : f_X12_notTenths (nI a) (nI b) = some 0 := by rw [xm_tenths, sp_eo_0 ha hb]
  simp only [f_X12_unheard, xm_isT hv hok.1 ht, mt_b1E, mt_ltE, mt_10, if_false, e1, e2, if_true]
  by_cases q : w < 4
  · rw [if_neg (by rw [mi_4]; exact nI_ge q (by omega)), xm_mean hv hok ht ha hb (by omega), mt_b1E, if_pos q]
  · rw [if_pos (by rw [mi_4]; exact nI_le (by omega) (by omega)), if_neg q]
    refine mt_lz2 (P := fun r => r = some (nI (sp_ub A t a b 3), M)) (fun i x y => x = nI (sp_ub A t a b i) ∧ y = nI (i + 1)) 3 (by decide) ?_ ?_ ⟨rfl, rfl⟩
    · rintro i hi x y ⟨rfl, rfl⟩ k
      left
      have hbu := sp_ub_le A t a b i
      have l1 := sp_mh_le hok ht (w := i + 1) ha hb
      have l2 := sp_mh_le hok ht (w := sp_ub A t a b i) ha hb
      refine ⟨_, _, ⟨rfl, rfl⟩, ?_⟩
      rw [mi_4, if_neg (nI_ge (show i + 1 < 4 by omega) (by omega)), xm_mean hv hok ht ha hb (show i + 1 ≤ 3 by omega), xm_mean hv hok ht ha hb (show sp_ub A t a b i ≤ 3 by omega)]
      simp only [mt_b1E, mt_ltE, nI_1, sp_ub]
      by_cases q : sp_mh A t a b (sp_ub A t a b i) ≤ sp_mh A t a b (i + 1)
      · rw [if_pos (nI_le q (by omega)), if_pos q]
      · rw [if_neg (nI_ge (by omega) (by omega)), if_neg q]
    · rintro x y ⟨rfl, rfl⟩ k
      rw [mi_4, if_pos (nI_le (by decide) (by decide))]
/-- all -/
def sp_am (A : hs_A) (a b i : Nat) : Bool := decide (sp_mh A i a b 2 < sp_mh A i a b 1)
def sp_as (A : hs_A) (a b i : Nat) : Nat := min (sp_mh A i a b 2) (sp_mh A i a b 1)
theorem xu_all (hv : cv 13 M A) (hok : hs_ok A) {a b w : Nat} (ha : a ≤ 10) (hb : b ≤ 10) (hw : w ≤ 1) : f_X11_all (nI a) (nI b) (nI w) M = some (if w = 0 then nI (sp_mk (sp_am A a b) (A 6 0)) else nI (sp_sm (A 6 0) (sp_as A a b)), M) := by
  have h7 := hok.1
  have e1 : f_X11_isOneOf (nI w) 1 = some 1 := by rcases (show w = 0 ∨ w = 1 by omega) with rfl | rfl <;> rfl
  have e2 : f_X11_eitherOutside (nI a) (nI b) 0 10 = some 0 := by rw [xo_either, sp_eo_0 ha hb]
  have e3 : f_X11_firstOf 0 1 (-2) = some 0 := rfl
  simp only [f_X11_all, mt_b1E, e1, e2, e3, if_true]
  refine mt_lz3 (P := fun r => r = some (if w = 0 then nI (sp_mk (sp_am A a b) (A 6 0)) else nI (sp_sm (A 6 0) (sp_as A a b)), M)) (fun i x y z => x = nI (sp_mk (sp_am A a b) i) ∧ y = nI (sp_sm i (sp_as A a b)) ∧ z = nI i) (A 6 0) (by omega) ?_ ?_ ⟨rfl, rfl, rfl⟩
  · rintro i hi x y z ⟨rfl, rfl, rfl⟩ k
    left
    have e := sp_bit_or (sp_am A a b) i (by omega)
    have l1 := sp_mh_le hok hi (w := 1) ha hb
    have l2 := sp_mh_le hok hi (w := 2) ha hb
    have m1 : f_X11_meanHarm (nI i) (nI a) (nI b) 1 M = some (nI (sp_mh A i a b 1)) := xu_mean hv hok hi ha hb (w := 1) (by decide)
    have m2 : f_X11_meanHarm (nI i) (nI a) (nI b) 2 M = some (nI (sp_mh A i a b 2)) := xu_mean hv hok hi ha hb (w := 2) (by decide)
    refine ⟨_, _, _, ⟨rfl, rfl, rfl⟩, ?_⟩
    rw [hv.1.1, if_neg (nI_ge hi (by omega)), m1, mt_b1E, m2, mt_b1E, ← e]
    simp only [mt_ltE, nI_1, sp_sm]
    by_cases q : sp_mh A i a b 2 < sp_mh A i a b 1
    · have ea : sp_am A a b i = true := by unfold sp_am; simp [q]
      have es : sp_as A a b i = sp_mh A i a b 2 := by unfold sp_as; omega
      rw [if_neg (nI_ge q (by omega)), if_pos (nI_lt q (by omega)), ea, if_pos rfl, es, nI_add]
    · have ea : sp_am A a b i = false := by unfold sp_am; simp [q]
      have es : sp_as A a b i = sp_mh A i a b 1 := by unfold sp_as; omega
      rw [if_pos (nI_le (by omega) (by omega)), if_neg (nI_nlt (by omega) (by omega)), ea, if_neg (by decide), es, nI_add]
  · rintro x y z ⟨rfl, rfl, rfl⟩ k
    rw [hv.1.1, if_pos (nI_le (Nat.le_refl _) (by omega))]
    rcases (show w = 0 ∨ w = 1 by omega) with rfl | rfl
    · rfl
    · rfl
theorem xm_all (hv : rm M A) (hok : hs_ok A) {a b w : Nat} (ha : a ≤ 10) (hb : b ≤ 10) (hw : w ≤ 1) : f_X12_all (nI a) (nI b) (nI w) M = some (if w = 0 then nI (sp_mk (sp_am A a b) (A 6 0)) else nI (sp_sm (A 6 0) (sp_as A a b)), M) := by
  have h7 := hok.1
  have e1 : f_X12_isIn (nI w) 0 1 = some 1 := by rcases (show w = 0 ∨ w = 1 by omega) with rfl | rfl <;> rfl
  have e2 : f_X12_notTenths (nI a) (nI b) = some 0 := by rw [xm_tenths, sp_eo_0 ha hb]
  simp only [f_X12_all, mt_b1E, mt_ltE, e1, e2, if_true, mt_10, if_false]
  refine mt_lz3 (P := fun r => r = some (if w = 0 then nI (sp_mk (sp_am A a b) (A 6 0)) else nI (sp_sm (A 6 0) (sp_as A a b)), M)) (fun i x y z => x = nI (sp_mk (sp_am A a b) i) ∧ y = nI (sp_sm i (sp_as A a b)) ∧ z = nI i) (A 6 0) (by omega) ?_ ?_ ⟨rfl, rfl, rfl⟩
  · rintro i hi x y z ⟨rfl, rfl, rfl⟩ k
    left
    have e := sp_bit_or (sp_am A a b) i (by omega)
    have l1 := sp_mh_le hok hi (w := 1) ha hb
    have l2 := sp_mh_le hok hi (w := 2) ha hb
    have m1 : f_X12_meanBy (nI i) (nI a) (nI b) 1 M = some (nI (sp_mh A i a b 1)) := xm_mean hv hok hi ha hb (w := 1) (by decide)
    have m2 : f_X12_meanBy (nI i) (nI a) (nI b) 2 M = some (nI (sp_mh A i a b 2)) := xm_mean hv hok hi ha hb (w := 2) (by decide)
    refine ⟨_, _, _, ⟨rfl, rfl, rfl⟩, ?_⟩
    rw [hv.1.1, if_neg (nI_ge hi (by omega)), ← e]
    simp only [m1, m2, mt_b1E, nI_1, sp_sm]
    by_cases q : sp_mh A i a b 2 < sp_mh A i a b 1
    · have ea : sp_am A a b i = true := by unfold sp_am; simp [q]
      have es : sp_as A a b i = sp_mh A i a b 2 := by unfold sp_as; omega
      rw [if_neg (nI_ge q (by omega)), ea, if_pos rfl, es]
      simp only [mt_10, if_false, m2, mt_b1E, nI_add]
    · have ea : sp_am A a b i = false := by unfold sp_am; simp [q]
      have es : sp_as A a b i = sp_mh A i a b 1 := by unfold sp_as; omega
      rw [if_pos (nI_le (by omega) (by omega)), ea, if_neg (by decide), es]
      simp only [mt_00, if_true, m1, mt_b1E, nI_add]
  · rintro x y z ⟨rfl, rfl, rfl⟩ k
    rw [hv.1.1, if_pos (nI_le (Nat.le_refl _) (by omega))]
    rcases (show w = 0 ∨ w = 1 by omega) with rfl | rfl
    · rfl
    · rfl
/-- the game -/
def sp_gq (k : Nat) : Nat := if k = 0 then 0 else if k = 3 then 2 else 1
def sp_gm (A : hs_A) (t k : Nat) : Bool := decide (sp_hr A t (sp_gq k) ≤ sp_hr A t (sp_gq (k ^^^ 1))) && decide (sp_hr A t (sp_gq k) ≤ sp_hr A t (sp_gq (k ^^^ 2)))
theorem kd_gq : ∀ k, k < 4 → f_J6_bitCount (nI k) = some (nI (sp_gq k)) ∧ f_X12_bits (nI k) = some (nI (sp_gq k)) := by decide +kernel
theorem sp_gx : ∀ k, k < 4 → k ^^^ 1 < 4 ∧ k ^^^ 2 < 4 ∧ sp_gq k ≤ 2 ∧ sp_gq (k ^^^ 1) ≤ 2 ∧ sp_gq (k ^^^ 2) ≤ 2 := by decide +kernel
theorem xu_game (hv : cv 13 M A) (hok : hs_ok A) (ht : t < A 6 0) : f_X11_game (nI t) M = some (nI (sp_mk (sp_gm A t) 4), M) := by
  simp only [f_X11_game, xc_hasT hv hok.1 ht, mt_b1E, mt_10, if_false]
  refine mt_lz2 (P := fun r => r = some (nI (sp_mk (sp_gm A t) 4), M)) (fun i x y => x = nI (sp_mk (sp_gm A t) i) ∧ y = nI i) 4 (by decide) ?_ ?_ ⟨rfl, rfl⟩
  · rintro i hi x y ⟨rfl, rfl⟩ k
    left
    obtain ⟨g1, g2, g3, g4, g5⟩ := sp_gx i hi
    have e := sp_bit_or (sp_gm A t) i (by omega)
    have ho : ∀ j, j < 4 → sp_gq j ≤ 2 → f_X11_harmOfPair (nI t) (nI j) M = some (nI (sp_hr A t (sp_gq j))) := fun j hj hj2 => by
      simp only [f_X11_harmOfPair, (kd_gq j hj).1, mt_b1E, xc_harm hv hok ht hj2]
    have l0 := sp_hr_le hok ht (sp_gq i)
    have l1 := sp_hr_le hok ht (sp_gq (i ^^^ 1))
    have l2 := sp_hr_le hok ht (sp_gq (i ^^^ 2))
    refine ⟨_, _, ⟨rfl, rfl⟩, ?_⟩
    rw [mi_4, if_neg (nI_ge hi (by omega)), ← e]
    simp only [mi_1, mi_2, nx_xor, ho i hi g3, ho _ g1 g4, ho _ g2 g5, mt_b1E, mt_ltE, nI_add]
    unfold sp_gm
    by_cases q1 : sp_hr A t (sp_gq i) ≤ sp_hr A t (sp_gq (i ^^^ 1))
    · rw [if_neg (nI_nlt q1 (by omega))]
      by_cases q2 : sp_hr A t (sp_gq i) ≤ sp_hr A t (sp_gq (i ^^^ 2))
      · rw [if_neg (nI_nlt q2 (by omega))]
        simp [q1, q2]
      · rw [if_pos (nI_lt (by omega) (by omega)), if_neg (by simp [q2]), mi_0, nx_or, Nat.or_zero]
    · rw [if_pos (nI_lt (by omega) (by omega)), if_neg (by simp [q1]), mi_0, nx_or, Nat.or_zero]
  · rintro x y ⟨rfl, rfl⟩ k
    rw [mi_4, if_pos (nI_le (Nat.le_refl _) (by omega))]
theorem xm_game (hv : rm M A) (hok : hs_ok A) (ht : t < A 6 0) : f_X12_game (nI t) M = some (nI (sp_mk (sp_gm A t) 4), M) := by
  simp only [f_X12_game, xm_isT hv hok.1 ht, mt_b1E, mt_10, if_false]
  refine mt_lz2 (P := fun r => r = some (nI (sp_mk (sp_gm A t) 4), M)) (fun i x y => x = nI (sp_mk (sp_gm A t) i) ∧ y = nI i) 4 (by decide) ?_ ?_ ⟨rfl, rfl⟩
  · rintro i hi x y ⟨rfl, rfl⟩ k
    left
    obtain ⟨g1, g2, g3, g4, g5⟩ := sp_gx i hi
    have e := sp_bit_or (sp_gm A t) i (by omega)
    have l0 := sp_hr_le hok ht (sp_gq i)
    have l1 := sp_hr_le hok ht (sp_gq (i ^^^ 1))
    have l2 := sp_hr_le hok ht (sp_gq (i ^^^ 2))
    refine ⟨_, _, ⟨rfl, rfl⟩, ?_⟩
    rw [mi_4, if_neg (nI_ge hi (by omega)), ← e]
    have e1 : nI i ^^^ (1 : Int32) = nI (i ^^^ 1) := nx_xor i 1
    have e2 : nI i ^^^ (2 : Int32) = nI (i ^^^ 2) := nx_xor i 2
    simp only [e1, e2, (kd_gq i hi).2, (kd_gq _ g1).2, (kd_gq _ g2).2, xm_harm hv hok ht g3, xm_harm hv hok ht g4, xm_harm hv hok ht g5, mt_b1E, mt_ltE, nI_1]
    unfold sp_gm
    by_cases q1 : sp_hr A t (sp_gq i) ≤ sp_hr A t (sp_gq (i ^^^ 1))
    · rw [if_neg (nI_nlt q1 (by omega))]
      by_cases q2 : sp_hr A t (sp_gq i) ≤ sp_hr A t (sp_gq (i ^^^ 2))
      · rw [if_neg (nI_nlt q2 (by omega))]
        simp [q1, q2]
      · rw [if_pos (nI_lt (by omega) (by omega)), if_neg (by simp [q2])]
    · rw [if_pos (nI_lt (by omega) (by omega)), if_neg (by simp [q1])]
  · rintro x y ⟨rfl, rfl⟩ k
    rw [mi_4, if_pos (nI_le (Nat.le_refl _) (by omega))]
end XU

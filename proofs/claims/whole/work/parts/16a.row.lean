/-! QUESTIONS BY THE ROW: the refrigerator, biscuits -/
theorem sp_and2 (w i : Nat) : w &&& 2 ^ i = if w.testBit i = true then 2 ^ i else 0 := by
  apply Nat.eq_of_testBit_eq
  intro j
  rw [Nat.testBit_and, Nat.testBit_two_pow]
  by_cases q : i = j
  · subst q
    cases q2 : w.testBit i
    · simp
    · simp [Nat.testBit_two_pow_self]
  · split
    · rw [Nat.testBit_two_pow]; simp [q]
    · simp [q]
theorem sp_and0 {w i : Nat} (hi : i < 31) : (nI (w &&& 2 ^ i) = 0) ↔ ¬ w.testBit i = true := by
  rw [sp_and2]
  have hp : 2 ^ i < 2 ^ 31 := Nat.pow_lt_pow_right (by decide) hi
  have hp1 : 0 < 2 ^ i := Nat.two_pow_pos i
  by_cases q : w.testBit i = true
  · rw [if_pos q]
    exact ⟨fun h => absurd h (nI_ne0 hp1 hp), fun h => absurd q h⟩
  · rw [if_neg q]
    exact ⟨fun _ => q, fun _ => rfl⟩
def sp_av (f : Nat → Bool) : Nat → Bool
  | 0 => true
  | i + 1 => sp_av f i && f i
theorem sp_av_t {f : Nat → Bool} {n : Nat} : sp_av f n = true ↔ ∀ i, i < n → f i = true := by
  induction n with
  | zero => exact ⟨fun _ i hi => by omega, fun _ => rfl⟩
  | succ n ih =>
    simp only [sp_av, Bool.and_eq_true, ih]
    constructor
    · intro h i hi
      by_cases q : i = n
      · subst q; exact h.2
      · exact h.1 i (by omega)
    · intro h
      exact ⟨fun i hi => h i (by omega), h n (by omega)⟩
def sp_gl (A : hs_A) (rr : Nat → Nat) (i : Nat) : Bool := decide (rr i / 10 ≤ 1) && decide (rr i % 10 < A 6 0)
def sp_ga (A : hs_A) (rr : Nat → Nat) (n : Nat) : Bool := decide (n ≤ 6) && sp_av (sp_gl A rr) n
/-- who bought, hearing each other where told -/
def fr_m (hd i : Nat) (s : Nat × Nat × Nat) : Nat × Nat × Nat := if 0 < i ∧ hd.testBit (i - 1) = true then (s.1 &&& s.2.1, s.1 &&& s.2.1, s.2.2) else s
def fr_b (rr : Nat → Nat) (i : Nat) (s : Nat × Nat × Nat) : Nat × Nat × Nat := if rr i < 10 then (sp_an s.1 (2 ^ (rr i % 10)), s.2.1, s.2.2 + (if s.1.testBit (rr i % 10) = true then 1 else 0)) else (s.1, sp_an s.2.1 (2 ^ (rr i % 10)), s.2.2 + (if s.2.1.testBit (rr i % 10) = true then 1 else 0))
def fr_s (rr : Nat → Nat) (hd : Nat) : Nat → Nat × Nat × Nat
  | 0 => (127, 127, 0)
  | i + 1 => fr_b rr i (fr_m hd i (fr_s rr hd i))
theorem fr_m_lt {hd i : Nat} {s : Nat × Nat × Nat} (h : s.1 < 128 ∧ s.2.1 < 128 ∧ s.2.2 ≤ i) : (fr_m hd i s).1 < 128 ∧ (fr_m hd i s).2.1 < 128 ∧ (fr_m hd i s).2.2 ≤ i := by
  unfold fr_m
  split
  · have h1 : s.1 &&& s.2.1 < 2 ^ 7 := sp_and_lt (n := 7) h.1
    exact ⟨h1, h1, h.2.2⟩
  · exact h
theorem fr_m_2 (hd i : Nat) (s : Nat × Nat × Nat) : (fr_m hd i s).2.2 = s.2.2 := by
  unfold fr_m
  split <;> rfl
theorem fr_s_lt (rr : Nat → Nat) (hd i : Nat) : (fr_s rr hd i).1 < 128 ∧ (fr_s rr hd i).2.1 < 128 ∧ (fr_s rr hd i).2.2 ≤ i := by
  induction i with
  | zero => exact ⟨(by decide : 127 < 128), (by decide : 127 < 128), Nat.le_refl _⟩
  | succ i ih =>
    obtain ⟨h1, h2, h3⟩ := fr_m_lt (hd := hd) ih
    simp only [fr_s]
    generalize fr_m hd i (fr_s rr hd i) = s at h1 h2 h3 ⊢
    unfold fr_b
    split
    · refine ⟨sp_an_lt (n := 7) h1, h2, ?_⟩
      show s.2.2 + _ ≤ i + 1
      split <;> omega
    · refine ⟨h1, sp_an_lt (n := 7) h2, ?_⟩
      show s.2.2 + _ ≤ i + 1
      split <;> omega
/-- the ways by which v were bought: how many of the i highest, the least of them -/
def fr_w (rr : Nat → Nat) (n g v : Nat) : Nat → Nat × Option Nat
  | 0 => (0, none)
  | i + 1 => if (fr_s rr (g - 1 - i) n).2.2 = v then ((fr_w rr n g v i).1 + 1, some (g - 1 - i)) else fr_w rr n g v i
theorem kd_gap : ∀ n, n < 13 → (if (0 : Int32) < nI n - (1 : Int32) then nI n - (1 : Int32) else (0 : Int32)) = nI (n - 1) := by decide +kernel
theorem kd_gap2 : ∀ n, n < 13 → ∀ R, R < 2 → (if (1 : Int32) ≤ nI n then nI n - (1 : Int32) else (0 : Int32)) = nI (n - 1) := by decide +kernel
theorem pk_rem2 {a d : Nat} (h : d * (a / d) ≤ a) : nI a - nI (a / d) * nI d = nI (a % d) := by
  rw [pk_mul, Nat.mul_comm, pk_sub h]
  congr 1
  have := Nat.div_add_mod a d
  omega
section XF
variable {M : mt_M} {A : hs_A} {t : Nat} {rr : Nat → Nat} {n : Nat}
theorem xf_isLine {h : Nat} (hh : cv (h + 3) M A) (h7 : A 6 0 ≤ 7) {a b : Nat} (ha : a < 2 ^ 31) (hb : b < 2 ^ 31) : f_X4_isLine h (nI a) (nI b) M = some (if (decide (a ≤ 1) && decide (b < A 6 0)) = true then 1 else 0) := by
  simp only [f_X4_isLine, xo_oneOf, xc_has hh.1.1 (show A 6 0 < 2 ^ 31 by omega) hb]
  by_cases q : a ≤ 1
  · rw [if_neg (fun z => z.elim (nI_pos ha) (by rw [mi_1]; exact nI_nlt q (by decide))), mt_b1E, if_neg (by decide), mt_b1E]
    by_cases z : b < A 6 0
    · rw [if_pos z, if_neg (by decide)]; simp [q, z]
    · rw [if_neg z, if_pos rfl]; simp [z]
  · rw [if_pos (Or.inr (by rw [mi_1]; exact nI_lt (by omega) ha)), mt_b1E, if_pos rfl]; simp [q]
theorem xm_has2 (hv : rm M A) (h7 : A 6 0 ≤ 7) {b : Nat} (hb : b < 2 ^ 31) : f_X12_isThing (nI b) M = some (if b < A 6 0 then 1 else 0) := by
  by_cases z : b < A 6 0
  · rw [if_pos z]; exact xm_isT hv h7 z
  · rw [if_neg z]; exact xm_isF hv (Or.inr (nI_le (by omega) hb))
theorem xm_isLine2 (hv : rm M A) (h7 : A 6 0 ≤ 7) {a b : Nat} (ha : a < 2 ^ 31) (hb : b < 2 ^ 31) : f_X12_isLine (nI a) (nI b) M = some (if (decide (a ≤ 1) && decide (b < A 6 0)) = true then 1 else 0) := by
  have e : f_X12_isList (nI a) = some (if a ≤ 1 then 1 else 0) := by
    unfold f_X12_isList
    by_cases q : a = 0
    · subst q; rfl
    · rw [if_neg (nI_ne0 (by omega) ha), mi_1]
      by_cases q1 : a = 1
      · subst q1; rfl
      · rw [if_neg (fun z => q1 ((nI_eq ha (by omega)).mp z)), if_neg (by omega)]
  simp only [f_X12_isLine, e, mt_b1E, xm_has2 hv h7 hb]
  by_cases q : a ≤ 1
  · rw [if_pos q, if_neg (by decide)]
    by_cases z : b < A 6 0
    · rw [if_pos z, if_neg (by decide)]; simp [q, z]
    · rw [if_neg z, if_pos rfl]; simp [z]
  · rw [if_neg q, if_pos rfl]; simp [q]
theorem xf_lines (hv : cv 13 M A) (h7 : A 6 0 ≤ 7) (hn : n ≤ 12) (h8 : M 0 8 = nI n) (hr : ∀ k, k < n → M 1 k = nI (rr k)) (hrb : ∀ k, k < n → rr k ≤ 99) : f_X11_isRowOfLines M = some (if sp_ga A rr n = true then 1 else 0) := by
  unfold f_X11_isRowOfLines
  rw [mt_ltE, h8]
  have main : ∀ b : Bool, mt_lp2 (fun k6 (x4 : Int32) (x5 : Int32) => if nI n ≤ x5 then mt_ck (x4 = 0 ∨ x4 = 1) (some (x4)) else mt_lt (fun (v10 : Int32) => mt_lt (x5 + (1 : Int32)) (fun (x13 : Int32) => k6 v10 x13)) (fun j11 => mt_lt (j11 (0 : Int32)) (fun j14 => if x4 = 0 then j14 else mt_ci x5 12 (mt_ci x5 12 (mt_b1 (f_X4_isLine 10 ((M 1 x5.toNatClampNeg) / (10 : Int32)) ((M 1 x5.toNatClampNeg) - (M 1 x5.toNatClampNeg) / (10 : Int32) * (10 : Int32)) M) (fun (r20 : Int32) => if r20 = 0 then j14 else j11 (1 : Int32))))))) mt_FU (if b = true then 1 else 0) (0 : Int32) = some (if (b && sp_av (sp_gl A rr) n) = true then 1 else 0) := by
    intro b
    refine mt_lz2 (P := fun r => r = some (if (b && sp_av (sp_gl A rr) n) = true then 1 else 0)) (fun i x y => x = (if (b && sp_av (sp_gl A rr) i) = true then 1 else 0) ∧ y = nI i) n (by omega) ?_ ?_ ⟨by simp [sp_av], rfl⟩
    · rintro i hi x y ⟨rfl, rfl⟩ k
      left
      have i1 : vp_in (nI i) 12 := vp_in_nI (by omega) (by omega)
      have c1 : (nI i).toNatClampNeg = i := nI_clamp (by omega)
      have hb := hrb i hi
      have eL : f_X4_isLine 10 (nI (rr i / 10)) (nI (rr i % 10)) M = some (if sp_gl A rr i = true then 1 else 0) := xf_isLine (h := 10) hv h7 (show rr i / 10 < 2 ^ 31 by omega) (show rr i % 10 < 2 ^ 31 by omega)
      have hnx : (b && sp_av (sp_gl A rr) (i + 1)) = ((b && sp_av (sp_gl A rr) i) && sp_gl A rr i) := by simp only [sp_av, Bool.and_assoc]
      refine ⟨_, _, ⟨rfl, rfl⟩, ?_⟩
      rw [if_neg (nI_ge hi (by omega)), hnx]
      simp only [mt_ltE, mt_ci_t i1, c1, hr i hi, mi_10, pk_rem2 (Nat.mul_div_le (rr i) 10), pk_div (show rr i < 2 ^ 31 by omega) (show 0 < 10 by decide) (by decide), eL, mt_b1E, nI_1]
      generalize (b && sp_av (sp_gl A rr) i) = p
      generalize sp_gl A rr i = g
      cases p <;> cases g <;> rfl
    · rintro x y ⟨rfl, rfl⟩ k
      rw [if_pos (nI_le (Nat.le_refl _) (by omega)), mt_ck_t]
      by_cases q : (b && sp_av (sp_gl A rr) n) = true
      · rw [if_pos q]; exact Or.inr rfl
      · rw [if_neg q]; exact Or.inl rfl
  unfold sp_ga
  by_cases q : n ≤ 6
  · rw [if_neg (by rw [mi_6]; exact nI_nlt q (by omega))]
    have h := main true
    rw [if_pos rfl] at h
    rw [show decide (n ≤ 6) = true by simpa using q]
    exact h
  · rw [if_pos (by rw [mi_6]; exact nI_lt (by omega) (by omega))]
    have h := main false
    rw [if_neg (by decide)] at h
    rw [show decide (n ≤ 6) = false by simpa using q]
    exact h
theorem xm_goings (hv : rm M A) (h7 : A 6 0 ≤ 7) (hn : n ≤ 12) (h8 : M 147 27 = nI n) (hr : ∀ k, k < n → M 162 k = nI (rr k)) (hrb : ∀ k, k < n → rr k ≤ 99) : f_X12_areGoings M = some (if sp_ga A rr n = true then 1 else 0) := by
  unfold f_X12_areGoings
  rw [h8]
  refine mt_lz1 (P := fun r => r = some (if sp_ga A rr n = true then 1 else 0)) (fun i x => x = nI i ∧ sp_av (sp_gl A rr) i = true) n (by omega) ?_ ?_ ⟨rfl, rfl⟩
  · rintro i hi x ⟨rfl, ha⟩ k
    have i1 : vp_in (nI i) 12 := vp_in_nI (by omega) (by omega)
    have c1 : (nI i).toNatClampNeg = i := nI_clamp (by omega)
    have hb := hrb i hi
    have eL : f_X12_isLine (nI (rr i / 10)) (nI (rr i % 10)) M = some (if sp_gl A rr i = true then 1 else 0) := xm_isLine2 hv h7 (show rr i / 10 < 2 ^ 31 by omega) (show rr i % 10 < 2 ^ 31 by omega)
    rw [if_neg (nI_ge hi (by omega))]
    simp only [mt_ltE, mt_ci_t i1, c1, hr i hi, mi_10, pk_rem2 (Nat.mul_div_le (rr i) 10), pk_div (show rr i < 2 ^ 31 by omega) (show 0 < 10 by decide) (by decide), eL, mt_b1E, nI_1]
    by_cases z : sp_gl A rr i = true
    · left
      rw [if_pos z, if_neg (by decide)]
      exact ⟨_, ⟨rfl, by simp only [sp_av]; rw [ha, z]; rfl⟩, rfl⟩
    · right
      rw [if_neg z, if_pos rfl, if_neg]
      intro w
      unfold sp_ga at w
      rw [Bool.and_eq_true] at w
      exact z (sp_av_t.mp w.2 i hi)
  · rintro x ⟨rfl, ha⟩ k
    rw [if_pos (nI_le (Nat.le_refl _) (by omega)), mi_6]
    unfold sp_ga
    rw [ha]
    by_cases q : n ≤ 6
    · rw [if_neg (nI_nlt q (by omega))]; simp [q]
    · rw [if_pos (nI_lt (by omega) (by omega))]; simp [q]
theorem xf_bought (hn : n ≤ 6) (h8 : M 0 8 = nI n) (hr : ∀ k, k < n → M 1 k = nI (rr k)) (hrb : ∀ k, k < n → rr k ≤ 99) {hd : Nat} (hh : hd < 2 ^ 31) : f_X11_boughtIfHeard (nI hd) M = some (nI (fr_s rr hd n).2.2) := by
  unfold f_X11_boughtIfHeard
  rw [h8]
  refine mt_lz4 (P := fun r => r = some (nI (fr_s rr hd n).2.2)) (fun i x y z w => x = nI (fr_s rr hd i).1 ∧ y = nI (fr_s rr hd i).2.1 ∧ z = nI (fr_s rr hd i).2.2 ∧ w = nI i) n (by omega) ?_ ?_ ⟨rfl, rfl, rfl, rfl⟩
  · rintro i hi x y z w ⟨rfl, rfl, rfl, rfl⟩ k
    left
    have i1 : vp_in (nI i) 12 := vp_in_nI (by omega) (by omega)
    have c1 : (nI i).toNatClampNeg = i := nI_clamp (by omega)
    have hb := hrb i hi
    refine ⟨_, _, _, _, ⟨rfl, rfl, rfl, rfl⟩, ?_⟩
    rw [if_neg (nI_ge hi (by omega)), mt_ltE]
    have tail : ∀ s : Nat × Nat × Nat, s.1 < 128 → s.2.1 < 128 → mt_ci (nI i) 12 (mt_lt ((1 : Int32) <<< (((M 1 (nI i).toNatClampNeg) - (M 1 (nI i).toNatClampNeg) / (10 : Int32) * (10 : Int32)) &&& 31)) (fun (x13 : Int32) => mt_ci (nI i) 12 (mt_lt (fun (x15 : Int32) (x16 : Int32) (x17 : Int32) => mt_lt (nI i + (1 : Int32)) (fun (x20 : Int32) => k x15 x16 x17 x20)) (fun j18 => if (10 : Int32) ≤ (M 1 (nI i).toNatClampNeg) then mt_lt (fun (v22 : Int32) => mt_lt (nI s.2.2 + v22) (fun (x25 : Int32) => mt_lt (nI s.2.1 &&& (x13 ^^^ (-1 : Int32))) (fun (x26 : Int32) => j18 (nI s.1) x26 x25))) (fun j23 => if (nI s.2.1 &&& x13) = 0 then j23 (0 : Int32) else j23 (1 : Int32)) else mt_lt (fun (v28 : Int32) => mt_lt (nI s.2.2 + v28) (fun (x31 : Int32) => mt_lt (nI s.1 &&& (x13 ^^^ (-1 : Int32))) (fun (x32 : Int32) => j18 x32 (nI s.2.1) x31))) (fun j29 => if (nI s.1 &&& x13) = 0 then j29 (0 : Int32) else j29 (1 : Int32)))))) = k (nI (fr_b rr i s).1) (nI (fr_b rr i s).2.1) (nI (fr_b rr i s).2.2) (nI (i + 1)) := by
      intro s h1 h2
      simp only [mt_ltE, mt_ci_t i1, c1, hr i hi, mi_10, pk_rem (show rr i < 2 ^ 31 by omega) (show 0 < 10 by decide) (by decide), nx_shl (show rr i % 10 < 31 by omega), nx_and, nx_andn, nI_1, sp_and0 (show rr i % 10 < 31 by omega)]
      unfold fr_b
      by_cases q : rr i < 10
      · rw [if_neg (nI_ge q (by omega)), if_pos q]
        by_cases z : s.1.testBit (rr i % 10) = true
        · rw [if_neg (fun w => w z), if_pos z]
        · rw [if_pos z, if_neg z, mi_0, nI_add]
      · rw [if_pos (nI_le (by omega) (by omega)), if_neg q]
        by_cases z : s.2.1.testBit (rr i % 10) = true
        · rw [if_neg (fun w => w z), if_pos z]
        · rw [if_pos z, if_neg z, mi_0, nI_add]
    obtain ⟨f1, f2, f3⟩ := fr_s_lt rr hd i
    have t1 := tail (fr_s rr hd i) f1 f2
    have hm := fr_m_lt (hd := hd) ⟨f1, f2, f3⟩
    have t2 := tail (fr_m hd i (fr_s rr hd i)) hm.1 hm.2.1
    simp only [fr_s]
    by_cases q : i = 0
    · have e : fr_m hd i (fr_s rr hd i) = fr_s rr hd i := by unfold fr_m; rw [if_neg (fun w => by omega)]
      rw [if_pos (by subst q; decide), e]
      exact t1
    · rw [if_neg (nI_nle (by omega) (by omega)), show nI i - (1 : Int32) = nI (i - 1) from pk_sub (b := 1) (by omega)]
      by_cases z : hd.testBit (i - 1) = true
      · have e : fr_m hd i (fr_s rr hd i) = ((fr_s rr hd i).1 &&& (fr_s rr hd i).2.1, (fr_s rr hd i).1 &&& (fr_s rr hd i).2.1, (fr_s rr hd i).2.2) := by unfold fr_m; rw [if_pos ⟨by omega, z⟩]
        rw [if_pos ((mt_bit1 hh (show i - 1 < 31 by omega)).mpr z), mt_ltE, nx_and]
        rw [e] at t2 ⊢
        exact t2
      · have e : fr_m hd i (fr_s rr hd i) = fr_s rr hd i := by unfold fr_m; rw [if_neg (fun w => z w.2)]
        rw [if_neg (fun w => z ((mt_bit1 hh (show i - 1 < 31 by omega)).mp w)), e]
        exact t1
  · rintro x y z w ⟨rfl, rfl, rfl, rfl⟩ k
    rw [if_pos (nI_le (Nat.le_refl _) (by omega))]
theorem xm_bought (hn : n ≤ 6) (h8 : M 147 27 = nI n) (hr : ∀ k, k < n → M 162 k = nI (rr k)) (hrb : ∀ k, k < n → rr k / 10 ≤ 1) {hd : Nat} (hh : hd < 2 ^ 31) : f_X12_boughtBy (nI hd) M = some (nI (fr_s rr hd n).2.2) := by
  unfold f_X12_boughtBy
  rw [h8]
  refine mt_lz4 (P := fun r => r = some (nI (fr_s rr hd n).2.2)) (fun i x y z w => x = nI (fr_m hd i (fr_s rr hd i)).1 ∧ y = nI (fr_m hd i (fr_s rr hd i)).2.1 ∧ z = nI (fr_s rr hd i).2.2 ∧ w = nI i) n (by omega) ?_ ?_ ⟨rfl, rfl, rfl, rfl⟩
  · rintro i hi x y z w ⟨rfl, rfl, rfl, rfl⟩ k
    left
    have i1 : vp_in (nI i) 12 := vp_in_nI (by omega) (by omega)
    have c1 : (nI i).toNatClampNeg = i := nI_clamp (by omega)
    have hb := hrb i hi
    have hm := fr_m_lt (hd := hd) (fr_s_lt rr hd i)
    have e2 : fr_s rr hd (i + 1) = fr_b rr i (fr_m hd i (fr_s rr hd i)) := rfl
    have e3 := fr_m_2 hd i (fr_s rr hd i)
    rw [← e3]
    refine ⟨_, _, _, _, ⟨rfl, rfl, rfl, rfl⟩, ?_⟩
    rw [e2]
    generalize fr_m hd i (fr_s rr hd i) = s at hm ⊢
    rw [if_neg (nI_ge hi (by omega))]
    simp only [mt_ltE, mt_ci_t i1, c1, hr i hi, mi_10, pk_rem2 (Nat.mul_div_le (rr i) 10), pk_div (show rr i < 2 ^ 31 by omega) (show 0 < 10 by decide) (by decide), nx_shl (show rr i % 10 < 31 by omega), xm_has hh (show i < 31 by omega), mt_b1E, nI_1]
    unfold fr_m
    rw [Nat.add_sub_cancel]
    have hi1 : 0 < i + 1 := by omega
    by_cases q : rr i < 10
    · have q1 : ¬ nI (rr i / 10) = 1 := fun w => by have := (nI_eq (a := rr i / 10) (b := 1) (by omega) (by omega)).mp w; omega
      have eb : fr_b rr i s = (sp_an s.1 (2 ^ (rr i % 10)), s.2.1, s.2.2 + (if s.1.testBit (rr i % 10) = true then 1 else 0)) := by unfold fr_b; rw [if_pos q]
      rw [if_neg q1, eb]
      simp only [mt_00, if_true, nx_and, nx_andn, sp_and0 (show rr i % 10 < 31 by omega)]
      by_cases z : hd.testBit i = true
      · simp only [if_pos z, mt_10, if_false, nx_and, if_pos (show 0 < i + 1 ∧ hd.testBit i = true from ⟨hi1, z⟩)]
        by_cases z2 : s.1.testBit (rr i % 10) = true
        · rw [if_neg (fun w => w z2), if_pos z2]
        · rw [if_pos z2, if_neg z2, mi_0, nI_add]
      · simp only [if_neg z, mt_00, if_true, if_neg (show ¬ (0 < i + 1 ∧ hd.testBit i = true) from fun w => z w.2)]
        by_cases z2 : s.1.testBit (rr i % 10) = true
        · rw [if_neg (fun w => w z2), if_pos z2]
        · rw [if_pos z2, if_neg z2, mi_0, nI_add]
    · have q1 : nI (rr i / 10) = 1 := by rw [show rr i / 10 = 1 by omega]; rfl
      have eb : fr_b rr i s = (s.1, sp_an s.2.1 (2 ^ (rr i % 10)), s.2.2 + (if s.2.1.testBit (rr i % 10) = true then 1 else 0)) := by unfold fr_b; rw [if_neg q]
      rw [if_pos q1, eb]
      simp only [mt_10, if_false, nx_and, nx_andn, sp_and0 (show rr i % 10 < 31 by omega)]
      by_cases z : hd.testBit i = true
      · simp only [if_pos z, mt_10, if_false, nx_and, if_pos (show 0 < i + 1 ∧ hd.testBit i = true from ⟨hi1, z⟩)]
        by_cases z2 : s.2.1.testBit (rr i % 10) = true
        · rw [if_neg (fun w => w z2), if_pos z2]
        · rw [if_pos z2, if_neg z2, mi_0, nI_add]
      · simp only [if_neg z, mt_00, if_true, if_neg (show ¬ (0 < i + 1 ∧ hd.testBit i = true) from fun w => z w.2)]
        by_cases z2 : s.2.1.testBit (rr i % 10) = true
        · rw [if_neg (fun w => w z2), if_pos z2]
        · rw [if_pos z2, if_neg z2, mi_0, nI_add]
  · rintro x y z w ⟨rfl, rfl, rfl, rfl⟩ k
    rw [if_pos (nI_le (Nat.le_refl _) (by omega))]
theorem sp_gp : ∀ n, n < 7 → 2 ^ (n - 1) ≤ 32 ∧ 1 ≤ 2 ^ (n - 1) := by decide +kernel
theorem fr_w_le (rr : Nat → Nat) (n g v i : Nat) : (fr_w rr n g v i).1 ≤ i := by
  induction i with
  | zero => exact Nat.le_refl _
  | succ i ih =>
    simp only [fr_w]
    split
    · show (fr_w rr n g v i).1 + 1 ≤ i + 1
      omega
    · omega
def sp_fg (rr : Nat → Nat) (n v w : Nat) : Int32 := if w = 0 then nI (fr_w rr n (2 ^ (n - 1)) v (2 ^ (n - 1))).1 else sp_ov (fr_w rr n (2 ^ (n - 1)) v (2 ^ (n - 1))).2
theorem xf_fridge (hv : cv 13 M A) (h7 : A 6 0 ≤ 7) (hn : n ≤ 12) (h8 : M 0 8 = nI n) (hr : ∀ k, k < n → M 1 k = nI (rr k)) (hrb : ∀ k, k < n → rr k ≤ 99) (hga : sp_ga A rr n = true) {v w : Nat} (hvv : v ≤ 99) (hw : w ≤ 1) : f_X11_fridge (nI v) (nI w) M = some (sp_fg rr n v w, M) := by
  have hl := xf_lines hv h7 hn h8 hr hrb
  rw [hga, if_pos rfl] at hl
  have hn6 : n ≤ 6 := by
    unfold sp_ga at hga
    rw [Bool.and_eq_true] at hga
    simpa using hga.1
  obtain ⟨g1, g2⟩ := sp_gp n (by omega)
  have e1 : f_X11_outside (nI v) 0 99 = some 0 := by
    unfold f_X11_outside
    rw [if_pos (nI_pos' (by omega)), mi_99, if_pos (nI_le hvv (by omega))]
  have e2 : f_X11_isOneOf (nI w) 1 = some 1 := by rcases (show w = 0 ∨ w = 1 by omega) with rfl | rfl <;> rfl
  have e4 : f_X11_firstOf 0 1 (-2) = some 0 := rfl
  have e5 : f_X11_firstOf 0 1 (-3) = some 0 := rfl
  have eg : nI (2 ^ (n - 1)) - (1 : Int32) = nI (2 ^ (n - 1) - 1) := pk_sub (b := 1) g2
  simp only [f_X11_fridge, e1, e2, e4, e5, hl, mt_b1E, mt_ltE, if_true, h8, kd_gap n (by omega), nx_shl (show n - 1 < 31 by omega), eg]
  refine mt_lz3 (P := fun r => r = some (sp_fg rr n v w, M)) (fun i x y z => x = nI (fr_w rr n (2 ^ (n - 1)) v i).1 ∧ y = sp_ov (fr_w rr n (2 ^ (n - 1)) v i).2 ∧ z = nI (2 ^ (n - 1) - i) + (-1)) (2 ^ (n - 1)) (by omega) ?_ ?_ ⟨rfl, rfl, ?_⟩
  · rintro i hi x y z ⟨rfl, rfl, rfl⟩ k
    left
    have ez : nI (2 ^ (n - 1) - i) + (-1) = nI (2 ^ (n - 1) - 1 - i) := by rw [show 2 ^ (n - 1) - i = 2 ^ (n - 1) - 1 - i + 1 by omega]; exact pk_m1 _
    have hs := (fr_s_lt rr (2 ^ (n - 1) - 1 - i) n).2.2
    rw [ez, if_neg (nI_pos (by omega)), xf_bought hn6 h8 hr hrb (show 2 ^ (n - 1) - 1 - i < 2 ^ 31 by omega), mt_b1E]
    simp only [mt_ltE, nI_1, fr_w]
    by_cases q : (fr_s rr (2 ^ (n - 1) - 1 - i) n).2.2 = v
    · rw [if_pos q, if_pos (show nI (fr_s rr (2 ^ (n - 1) - 1 - i) n).2.2 = nI v by rw [q])]
      exact ⟨_, _, _, ⟨rfl, rfl, rfl⟩, by rw [show 2 ^ (n - 1) - (i + 1) = 2 ^ (n - 1) - 1 - i by omega]; rfl⟩
    · rw [if_neg (fun u => q ((nI_eq (by omega) (by omega)).mp u)), if_neg q]
      exact ⟨_, _, _, ⟨rfl, rfl, rfl⟩, by rw [show 2 ^ (n - 1) - (i + 1) = 2 ^ (n - 1) - 1 - i by omega]⟩
  · rintro x y z ⟨rfl, rfl, rfl⟩ k
    rw [Nat.sub_self, if_pos (show nI 0 + (-1) < 0 by decide)]
    rcases (show w = 0 ∨ w = 1 by omega) with rfl | rfl
    · rfl
    · rfl
  · rw [Nat.sub_zero, show 2 ^ (n - 1) = 2 ^ (n - 1) - 1 + 1 by omega, pk_m1, Nat.add_sub_cancel]
theorem xm_fridge (hv : rm M A) (h7 : A 6 0 ≤ 7) (hn : n ≤ 12) (h8 : M 147 27 = nI n) (hr : ∀ k, k < n → M 162 k = nI (rr k)) (hrb : ∀ k, k < n → rr k ≤ 99) (hga : sp_ga A rr n = true) {v w : Nat} (hvv : v ≤ 99) (hw : w ≤ 1) : f_X12_fridge (nI v) (nI w) M = some (sp_fg rr n v w, M) := by
  have hl := xm_goings hv h7 hn h8 hr hrb
  rw [hga, if_pos rfl] at hl
  have hga2 := hga
  unfold sp_ga at hga2
  rw [Bool.and_eq_true] at hga2
  have hn6 : n ≤ 6 := by simpa using hga2.1
  have hrl : ∀ k, k < n → rr k / 10 ≤ 1 := fun k hk => by
    have h := sp_av_t.mp hga2.2 k hk
    unfold sp_gl at h
    rw [Bool.and_eq_true] at h
    simpa using h.1
  obtain ⟨g1, g2⟩ := sp_gp n (by omega)
  have e1 : f_X12_bound (nI v) 0 99 = some 0 := by
    unfold f_X12_bound
    rw [if_pos (nI_pos' (by omega)), mi_99, if_pos (nI_le hvv (by omega))]
  have e2 : f_X12_isIn (nI w) 0 1 = some 1 := by rcases (show w = 0 ∨ w = 1 by omega) with rfl | rfl <;> rfl
  have eg : nI (2 ^ (n - 1)) - (1 : Int32) = nI (2 ^ (n - 1) - 1) := pk_sub (b := 1) g2
  have main : mt_lp3 (fun k14 (x11 : Int32) (x12 : Int32) (x13 : Int32) => if x13 < 0 then if nI w = 0 then some (x11, M) else some (x12, M) else mt_b1 (f_X12_boughtBy x13 M) (fun (r19 : Int32) => mt_lt (fun (x20 : Int32) (x21 : Int32) => mt_lt (x13 + (-1 : Int32)) (fun (x24 : Int32) => k14 x20 x21 x24)) (fun j22 => if r19 = nI v then mt_lt (x11 + (1 : Int32)) (fun (x26 : Int32) => j22 x26 x13) else j22 x11 x12))) mt_FU (0 : Int32) (-9 : Int32) (nI (2 ^ (n - 1) - 1)) = some (sp_fg rr n v w, M) := by
    refine mt_lz3 (P := fun r => r = some (sp_fg rr n v w, M)) (fun i x y z => x = nI (fr_w rr n (2 ^ (n - 1)) v i).1 ∧ y = sp_ov (fr_w rr n (2 ^ (n - 1)) v i).2 ∧ z = nI (2 ^ (n - 1) - i) + (-1)) (2 ^ (n - 1)) (by omega) ?_ ?_ ⟨rfl, rfl, ?_⟩
    · rintro i hi x y z ⟨rfl, rfl, rfl⟩ k
      left
      have ez : nI (2 ^ (n - 1) - i) + (-1) = nI (2 ^ (n - 1) - 1 - i) := by rw [show 2 ^ (n - 1) - i = 2 ^ (n - 1) - 1 - i + 1 by omega]; exact pk_m1 _
      have hs := (fr_s_lt rr (2 ^ (n - 1) - 1 - i) n).2.2
      rw [ez, if_neg (nI_pos (by omega)), xm_bought hn6 h8 hr hrl (show 2 ^ (n - 1) - 1 - i < 2 ^ 31 by omega), mt_b1E]
      simp only [mt_ltE, nI_1, fr_w]
      by_cases q : (fr_s rr (2 ^ (n - 1) - 1 - i) n).2.2 = v
      · rw [if_pos q, if_pos (show nI (fr_s rr (2 ^ (n - 1) - 1 - i) n).2.2 = nI v by rw [q])]
        exact ⟨_, _, _, ⟨rfl, rfl, rfl⟩, by rw [show 2 ^ (n - 1) - (i + 1) = 2 ^ (n - 1) - 1 - i by omega]; rfl⟩
      · rw [if_neg (fun u => q ((nI_eq (by omega) (by omega)).mp u)), if_neg q]
        exact ⟨_, _, _, ⟨rfl, rfl, rfl⟩, by rw [show 2 ^ (n - 1) - (i + 1) = 2 ^ (n - 1) - 1 - i by omega]⟩
    · rintro x y z ⟨rfl, rfl, rfl⟩ k
      rw [Nat.sub_self, if_pos (show nI 0 + (-1) < 0 by decide)]
      rcases (show w = 0 ∨ w = 1 by omega) with rfl | rfl
      · rfl
      · rfl
    · rw [Nat.sub_zero, show 2 ^ (n - 1) = 2 ^ (n - 1) - 1 + 1 by omega, pk_m1, Nat.add_sub_cancel]
  simp only [f_X12_fridge, e1, e2, hl, mt_b1E, mt_ltE, if_true, mt_10, if_false, h8]
  simp only [mt_ltE] at main
  by_cases q : 1 ≤ n
  · rw [if_pos (show (1 : Int32) ≤ nI n from nI_le q (by omega)), show nI n - (1 : Int32) = nI (n - 1) from pk_sub (b := 1) q, nx_shl (show n - 1 < 31 by omega), eg]
    exact main
  · rw [if_neg (show ¬ (1 : Int32) ≤ nI n from nI_ge (b := 1) (by omega) (by omega))]
    have e0 : (1 : Int32) <<< ((0 : Int32) &&& 31) - (1 : Int32) = nI (2 ^ (n - 1) - 1) := by rw [show n = 0 by omega]; decide
    rw [e0]
    exact main
end XF

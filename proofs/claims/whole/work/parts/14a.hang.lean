/-! THINGS THAT HANG TOGETHER -/
/-- hang together: no colouring that is even over the alike tells them apart -/
def al_R (n : Nat) (al : Nat → Nat → Bool) (x y : Nat) : Prop := ∀ g : Nat → Nat, (∀ a b, a < n → b < n → al a b = true → g a = g b) → g x = g y
theorem al_R_rfl (n : Nat) (al : Nat → Nat → Bool) (x : Nat) : al_R n al x x := fun _ _ => rfl
theorem al_R_symm {n : Nat} {al : Nat → Nat → Bool} {x y : Nat} (h : al_R n al x y) : al_R n al y x := fun g hg => (h g hg).symm
theorem al_R_trans {n : Nat} {al : Nat → Nat → Bool} {x y z : Nat} (h : al_R n al x y) (h2 : al_R n al y z) : al_R n al x z := fun g hg => (h g hg).trans (h2 g hg)
theorem al_R_edge {n : Nat} {al : Nat → Nat → Bool} {x y : Nat} (hx : x < n) (hy : y < n) (h : al x y = true) : al_R n al x y := fun _ hg => hg x y hx hy h
/-- the leasts of a colouring -/
def al_ls (g : Nat → Nat) (x : Nat) : Bool := decide (∀ y, y < x → g y ≠ g x)
theorem al_ls_i (g : Nat → Nat) (x : Nat) : al_ls g x = true ↔ ∀ y, y < x → g y ≠ g x := by unfold al_ls; exact decide_eq_true_iff
def al_ct (g : Nat → Nat) (n : Nat) : Nat := sp_sm n (fun x => if al_ls g x = true then 1 else 0)
theorem sp_sm_one {n m : Nat} {f f' : Nat → Nat} (hm : m < n) (h : ∀ x, x < n → x ≠ m → f x = f' x) (h1 : f m = f' m + 1) : sp_sm n f = sp_sm n f' + 1 := by
  induction n with
  | zero => omega
  | succ n ih =>
    simp only [sp_sm]
    by_cases q : m = n
    · subst q
      rw [sp_sm_congr (fun i hi => h i (by omega) (by omega)), h1]; omega
    · rw [ih (by omega) (fun x hx hxm => h x (by omega) hxm), h n (by omega) (by omega)]; omega
theorem al_ct_id (n : Nat) : al_ct (fun x => x) n = n := by
  unfold al_ct
  induction n with
  | zero => rfl
  | succ n ih =>
    simp only [sp_sm]
    rw [ih, if_pos]
    rw [al_ls_i]
    intro y hy
    omega
/-- two classes become one -/
theorem al_merge {g : Nat → Nat} {n i j : Nat} (hi : i < n) (hj : j < n) (hne : g i ≠ g j) : al_ct g n = al_ct (fun x => if g x = g j then g i else g x) n + 1 := by
  obtain ⟨a, a1, a2⟩ := pk_least (fun x => g x = g i) ⟨i, rfl⟩
  obtain ⟨b, b1, b2⟩ := pk_least (fun x => g x = g j) ⟨j, rfl⟩
  have hab : a ≠ b := fun q => hne (by rw [← a1, q, b1])
  have hai : a ≤ i := Nat.not_lt.mp fun q => a2 i q rfl
  have hbj : b ≤ j := Nat.not_lt.mp fun q => b2 j q rfl
  have key : ∀ x, x ≠ max a b → (al_ls g x = true ↔ al_ls (fun x => if g x = g j then g i else g x) x = true) := by
    intro x hx
    rw [al_ls_i, al_ls_i]
    by_cases qj : g x = g j
    · constructor
      · intro h y hy
        have hbx : b = x := by
          rcases Nat.lt_trichotomy b x with z | z | z
          · exact absurd (b1.trans qj.symm) (h b z)
          · exact z
          · exact absurd qj (b2 x z)
        subst hbx
        have : b < a := by omega
        simp only [if_pos qj]
        rw [if_neg (fun z => b2 y hy z)]
        exact fun z => a2 y (by omega) z
      · intro h y hy z
        have h1 := h y hy
        simp only [if_pos qj] at h1
        rw [if_pos (z.trans qj)] at h1
        exact h1 rfl
    · by_cases qi : g x = g i
      · constructor
        · intro h y hy
          have hax : a = x := by
            rcases Nat.lt_trichotomy a x with z | z | z
            · exact absurd (a1.trans qi.symm) (h a z)
            · exact z
            · exact absurd qi (a2 x z)
          subst hax
          have : a < b := by omega
          simp only [if_neg qj]
          rw [if_neg (fun z => b2 y (by omega) z), qi]
          exact fun z => a2 y hy z
        · intro h y hy z
          have h1 := h y hy
          simp only [if_neg qj] at h1
          rw [if_neg (fun w => qj (z.symm.trans w))] at h1
          exact h1 z
      · constructor
        · intro h y hy
          simp only [if_neg qj]
          by_cases z : g y = g j
          · rw [if_pos z]; exact fun w => qi w.symm
          · rw [if_neg z]; exact h y hy
        · intro h y hy z
          have h1 := h y hy
          simp only [if_neg qj] at h1
          rw [if_neg (fun w => qj (z.symm.trans w))] at h1
          exact h1 z
  unfold al_ct
  refine sp_sm_one (m := max a b) (by omega) (fun x _ hx => ?_) ?_
  · have h := key x hx
    by_cases q : al_ls g x = true
    · rw [if_pos q, if_pos (h.mp q)]
    · rw [if_neg q, if_neg (fun z => q (h.mpr z))]
  · rcases Nat.lt_or_gt_of_ne hab with q | q
    · have e : max a b = b := by omega
      rw [e, if_pos, if_neg]
      · rw [al_ls_i]
        intro h
        have h1 := h a q
        simp only [if_pos b1] at h1
        rw [if_neg (fun z => hne (a1.symm.trans z)), a1] at h1
        exact h1 rfl
      · rw [al_ls_i]
        intro y hy z
        exact b2 y hy (z.trans b1)
    · have e : max a b = a := by omega
      rw [e, if_pos, if_neg]
      · rw [al_ls_i]
        intro h
        have h1 := h b q
        simp only [if_pos b1] at h1
        rw [if_neg (fun z => hne (a1.symm.trans z)), a1] at h1
        exact h1 rfl
      · rw [al_ls_i]
        intro y hy z
        exact a2 y hy (z.trans a1)
/-- how many groups there are -/
noncomputable def al_gd (n : Nat) (al : Nat → Nat → Bool) (x : Nat) : Nat := @ite Nat (∀ y, y < x → ¬ al_R n al y x) (Classical.propDecidable _) 1 0
noncomputable def al_gr (n : Nat) (al : Nat → Nat → Bool) : Nat := sp_sm n (al_gd n al)
theorem al_gd_t {n : Nat} {al : Nat → Nat → Bool} {x : Nat} (h : ∀ y, y < x → ¬ al_R n al y x) : al_gd n al x = 1 := by unfold al_gd; exact if_pos h
theorem al_gd_f {n : Nat} {al : Nat → Nat → Bool} {x : Nat} (h : ¬ ∀ y, y < x → ¬ al_R n al y x) : al_gd n al x = 0 := by unfold al_gd; exact if_neg h
theorem al_gr_ct {n : Nat} {al : Nat → Nat → Bool} {g : Nat → Nat} (h1 : ∀ x y, x < n → y < n → g x = g y → al_R n al x y) (h2 : ∀ a b, a < n → b < n → al a b = true → g a = g b) : al_ct g n = al_gr n al := by
  unfold al_ct al_gr
  refine sp_sm_congr (fun x hx => ?_)
  by_cases q : al_ls g x = true
  · rw [if_pos q, al_gd_t]
    intro y hy hr
    exact (al_ls_i g x).mp q y hy (hr g h2)
  · rw [if_neg q, al_gd_f]
    intro h
    refine q ((al_ls_i g x).mpr fun y hy z => ?_)
    exact h y hy (h1 y x (by omega) hx z)
/-- the reference's way: a set that grows -/
def al_st (n : Nat) (al : Nat → Nat → Bool) (s k : Nat) : Nat := if s.testBit (k / n) = true ∧ al (k / n) (k % n) = true then s ||| 2 ^ (k % n) else s
def al_rd (n : Nat) (al : Nat → Nat → Bool) (s : Nat) : Nat → Nat
  | 0 => s
  | k + 1 => al_st n al (al_rd n al s k) k
def al_gp (n : Nat) (al : Nat → Nat → Bool) (a : Nat) : Nat → Nat
  | 0 => 2 ^ a
  | j + 1 => al_rd n al (al_gp n al a j) (n * n)
theorem al_st_t (n : Nat) (al : Nat → Nat → Bool) (s k x : Nat) : (al_st n al s k).testBit x = true ↔ s.testBit x = true ∨ (x = k % n ∧ s.testBit (k / n) = true ∧ al (k / n) (k % n) = true) := by
  unfold al_st
  by_cases q : s.testBit (k / n) = true ∧ al (k / n) (k % n) = true
  · rw [if_pos q, Nat.testBit_or, Nat.testBit_two_pow]
    simp only [Bool.or_eq_true, decide_eq_true_eq]
    constructor
    · rintro (h | h)
      · exact Or.inl h
      · exact Or.inr ⟨h.symm, q⟩
    · rintro (h | h)
      · exact Or.inl h
      · exact Or.inr h.1.symm
  · rw [if_neg q]
    constructor
    · exact Or.inl
    · rintro (h | h)
      · exact h
      · exact absurd h.2 q
theorem al_rd_mono {n : Nat} {al : Nat → Nat → Bool} {s x : Nat} (h : s.testBit x = true) (k : Nat) : (al_rd n al s k).testBit x = true := by
  induction k with
  | zero => exact h
  | succ k ih => simp only [al_rd]; rw [al_st_t]; exact Or.inl ih
theorem al_rd_mono2 {n : Nat} {al : Nat → Nat → Bool} {s x k : Nat} (h : (al_rd n al s k).testBit x = true) : ∀ d, (al_rd n al s (k + d)).testBit x = true
  | 0 => h
  | d + 1 => by
    show (al_st n al (al_rd n al s (k + d)) (k + d)).testBit x = true
    rw [al_st_t]; exact Or.inl (al_rd_mono2 h d)
theorem al_dm {n x y : Nat} (hx : x < n) (hy : y < n) : (x * n + y) / n = x ∧ (x * n + y) % n = y ∧ x * n + y < n * n := by
  have hn : 0 < n := by omega
  refine ⟨?_, ?_, ?_⟩
  · rw [Nat.mul_comm, Nat.mul_add_div hn, Nat.div_eq_of_lt hy]; omega
  · rw [Nat.mul_comm, Nat.mul_add_mod, Nat.mod_eq_of_lt hy]
  · have h1 : (x + 1) * n ≤ n * n := Nat.mul_le_mul_right n hx
    rw [Nat.succ_mul] at h1
    omega
def al_cd (n : Nat) (al : Nat → Nat → Bool) (s : Nat) : Prop := ∀ x y, x < n → y < n → s.testBit x = true → al x y = true → s.testBit y = true
theorem al_rd_sound {n : Nat} {al : Nat → Nat → Bool} {a s : Nat} (h : ∀ x, s.testBit x = true → x < n ∧ al_R n al a x) (k : Nat) (hk : k ≤ n * n) : ∀ x, (al_rd n al s k).testBit x = true → x < n ∧ al_R n al a x := by
  induction k with
  | zero => exact h
  | succ k ih =>
    intro x hx
    simp only [al_rd] at hx
    rw [al_st_t] at hx
    rcases hx with hx | ⟨rfl, h1, h2⟩
    · exact ih (by omega) x hx
    · have hn : 0 < n := by
        rcases Nat.eq_zero_or_pos n with z | z
        · subst z; omega
        · exact z
      have hd : k / n < n := Nat.div_lt_of_lt_mul (by omega)
      have hm : k % n < n := Nat.mod_lt _ hn
      exact ⟨hm, al_R_trans (ih (by omega) _ h1).2 (al_R_edge hd hm h2)⟩
theorem al_rd_closed {n : Nat} {al : Nat → Nat → Bool} {s : Nat} (h : al_cd n al s) (k : Nat) (hk : k ≤ n * n) : al_rd n al s k = s := by
  induction k with
  | zero => rfl
  | succ k ih =>
    simp only [al_rd]
    rw [ih (by omega)]
    unfold al_st
    by_cases q : s.testBit (k / n) = true ∧ al (k / n) (k % n) = true
    · rw [if_pos q]
      have hn : 0 < n := by
        rcases Nat.eq_zero_or_pos n with z | z
        · subst z; omega
        · exact z
      have hd : k / n < n := Nat.div_lt_of_lt_mul (by omega)
      have hm : k % n < n := Nat.mod_lt _ hn
      have hb := h _ _ hd hm q.1 q.2
      apply Nat.eq_of_testBit_eq
      intro j
      rw [Nat.testBit_or, Nat.testBit_two_pow]
      by_cases z : k % n = j
      · subst z; rw [hb]; simp
      · simp [z]
    · rw [if_neg q]
def al_cn (n s : Nat) : Nat := sp_sm n (fun x => if s.testBit x = true then 1 else 0)
theorem al_cn_le (n s : Nat) : al_cn n s ≤ n := by
  have h := sp_sm_le (n := n) (b := 1) (f := fun x => if s.testBit x = true then 1 else 0) (fun x _ => by show (if s.testBit x = true then 1 else 0) ≤ 1; split <;> omega)
  unfold al_cn
  omega
theorem sp_sm_mono {n : Nat} {f f' : Nat → Nat} (h : ∀ x, x < n → f x ≤ f' x) : sp_sm n f ≤ sp_sm n f' := by
  induction n with
  | zero => exact Nat.le_refl _
  | succ n ih =>
    have h1 := ih (fun x hx => h x (by omega))
    have h2 := h n (by omega)
    simp only [sp_sm]; omega
theorem sp_sm_lt {n y : Nat} {f f' : Nat → Nat} (hy : y < n) (h : ∀ x, x < n → f x ≤ f' x) (h1 : f y + 1 ≤ f' y) : sp_sm n f + 1 ≤ sp_sm n f' := by
  induction n with
  | zero => omega
  | succ n ih =>
    have h2 := h n (by omega)
    have h3 := sp_sm_mono (fun x (hx : x < n) => h x (by omega))
    simp only [sp_sm]
    by_cases q : y = n
    · subst q; omega
    · have := ih (by omega) (fun x hx => h x (by omega)); omega
theorem al_prog {n : Nat} {al : Nat → Nat → Bool} {s : Nat} (h : ¬ al_cd n al s) : al_cn n s + 1 ≤ al_cn n (al_rd n al s (n * n)) := by
  have h2 : ∃ x y, x < n ∧ y < n ∧ s.testBit x = true ∧ al x y = true ∧ ¬ s.testBit y = true := by
    apply Classical.byContradiction
    intro hc
    refine h fun x y hx hy h1 h2 => ?_
    apply Classical.byContradiction
    intro hb
    exact hc ⟨x, y, hx, hy, h1, h2, hb⟩
  obtain ⟨x, y, hx, hy, h3, h4, h5⟩ := h2
  obtain ⟨d1, d2, d3⟩ := al_dm hx hy
  have hyb : (al_rd n al s (n * n)).testBit y = true := by
    have h6 : (al_rd n al s (x * n + y + 1)).testBit y = true := by
      simp only [al_rd]
      rw [al_st_t, d1, d2]
      exact Or.inr ⟨rfl, al_rd_mono h3 _, h4⟩
    have h7 := al_rd_mono2 h6 (n * n - (x * n + y + 1))
    rw [show x * n + y + 1 + (n * n - (x * n + y + 1)) = n * n by omega] at h7
    exact h7
  unfold al_cn
  refine sp_sm_lt hy (fun z _ => ?_) ?_
  · by_cases q : s.testBit z = true
    · rw [if_pos q, if_pos (al_rd_mono q _)]; exact Nat.le_refl _
    · rw [if_neg q]; exact Nat.zero_le _
  · rw [if_neg h5, if_pos hyb]; exact Nat.le_refl _
theorem al_gp_sound {n : Nat} {al : Nat → Nat → Bool} {a : Nat} (ha : a < n) (j : Nat) : ∀ x, (al_gp n al a j).testBit x = true → x < n ∧ al_R n al a x := by
  induction j with
  | zero =>
    intro x hx
    simp only [al_gp] at hx
    rw [Nat.testBit_two_pow] at hx
    have : a = x := by simpa using hx
    subst this
    exact ⟨ha, al_R_rfl _ _ _⟩
  | succ j ih => exact al_rd_sound ih _ (Nat.le_refl _)
theorem al_gp_self (n : Nat) (al : Nat → Nat → Bool) (a j : Nat) : (al_gp n al a j).testBit a = true := by
  induction j with
  | zero => simp only [al_gp]; exact Nat.testBit_two_pow_self
  | succ j ih => simp only [al_gp]; exact al_rd_mono ih _
theorem al_gp_closed {n : Nat} {al : Nat → Nat → Bool} {a : Nat} (ha : a < n) : al_cd n al (al_gp n al a n) := by
  have key : ∀ j, al_cd n al (al_gp n al a j) ∨ j + 1 ≤ al_cn n (al_gp n al a j) := by
    intro j
    induction j with
    | zero =>
      right
      have h := sp_sm_lt (n := n) (y := a) (f := fun _ => 0) (f' := fun x => if (al_gp n al a 0).testBit x = true then 1 else 0) ha (fun _ _ => Nat.zero_le _) (by
        show 0 + 1 ≤ (if (al_gp n al a 0).testBit a = true then 1 else 0)
        rw [if_pos (al_gp_self n al a 0)]
        exact Nat.le_refl _)
      unfold al_cn
      omega
    | succ j ih =>
      by_cases q : al_cd n al (al_gp n al a j)
      · left
        simp only [al_gp]
        rw [al_rd_closed q _ (Nat.le_refl _)]
        exact q
      · right
        have h1 := al_prog q
        have h2 := ih.resolve_left q
        simp only [al_gp]
        omega
  rcases key n with h | h
  · exact h
  · have := al_cn_le n (al_gp n al a n)
    omega
theorem al_gp_R {n : Nat} {al : Nat → Nat → Bool} (hs : ∀ x y, al x y = al y x) {a x : Nat} (ha : a < n) (hx : x < n) : (al_gp n al a n).testBit x = true ↔ al_R n al a x := by
  constructor
  · exact fun h => (al_gp_sound ha n x h).2
  · intro h
    have hc := al_gp_closed (al := al) ha
    have h1 := h (fun z => if (al_gp n al a n).testBit z = true then 1 else 0) (fun u v hu hv huv => by
      show (if (al_gp n al a n).testBit u = true then 1 else 0) = (if (al_gp n al a n).testBit v = true then 1 else 0)
      by_cases q : (al_gp n al a n).testBit u = true
      · rw [if_pos q, if_pos (hc u v hu hv q huv)]
      · rw [if_neg q, if_neg (fun z => q (hc v u hv hu z (by rw [hs]; exact huv)))])
    have h2 : (if (al_gp n al a n).testBit a = true then 1 else 0) = (if (al_gp n al a n).testBit x = true then 1 else 0) := h1
    rw [if_pos (al_gp_self n al a n)] at h2
    by_cases q : (al_gp n al a n).testBit x = true
    · exact q
    · rw [if_neg q] at h2; exact absurd h2 (by decide)
theorem al_low {n : Nat} {al : Nat → Nat → Bool} (hs : ∀ x y, al x y = al y x) {a : Nat} (ha : a < n) : (if al_gp n al a n &&& (2 ^ a - 1) = 0 then 1 else 0) = al_gd n al a := by
  have e : (al_gp n al a n &&& (2 ^ a - 1) = 0) ↔ ∀ y, y < a → ¬ al_R n al y a := by
    rw [Nat.and_two_pow_sub_one_eq_mod]
    constructor
    · intro h y hy hr
      have h1 : (al_gp n al a n % 2 ^ a).testBit y = true := by
        rw [Nat.testBit_mod_two_pow, (al_gp_R hs ha (by omega)).mpr (al_R_symm hr)]
        simp [hy]
      rw [h, Nat.zero_testBit] at h1
      exact absurd h1 (by decide)
    · intro h
      apply Nat.eq_of_testBit_eq
      intro y
      rw [Nat.testBit_mod_two_pow, Nat.zero_testBit]
      by_cases q : y < a
      · have : ¬ (al_gp n al a n).testBit y = true := fun z => h y q (al_R_symm ((al_gp_R hs ha (by omega)).mp z))
        simp [q, this]
      · simp [q]
  by_cases q : ∀ y, y < a → ¬ al_R n al y a
  · rw [if_pos (e.mpr q), al_gd_t q]
  · rw [if_neg (fun z => q (e.mp z)), al_gd_f q]
theorem al_gp_lt {n : Nat} {al : Nat → Nat → Bool} {a : Nat} (ha : a < n) (j : Nat) : al_gp n al a j < 2 ^ n := by
  apply Nat.lt_pow_two_of_testBit
  intro i hi
  have : ¬ (al_gp n al a j).testBit i = true := fun z => by have := (al_gp_sound ha j i z).1; omega
  simpa using this
theorem al_rd_lt {n : Nat} {al : Nat → Nat → Bool} {a : Nat} (ha : a < n) (j k : Nat) (hk : k ≤ n * n) : al_rd n al (al_gp n al a j) k < 2 ^ n := by
  apply Nat.lt_pow_two_of_testBit
  intro i hi
  have : ¬ (al_rd n al (al_gp n al a j) k).testBit i = true := fun z => by have := (al_rd_sound (al_gp_sound ha j) k hk i z).1; omega
  simpa using this

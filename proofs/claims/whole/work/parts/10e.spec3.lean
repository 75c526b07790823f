/-! THE SPEC: packs of everything, intervals, turns, the month, swaps, lots -/
noncomputable def sp_n7 : Nat := Classical.choose (⟨7, rfl⟩ : ∃ n : Nat, n = 7)
theorem sp_e7 : sp_n7 = 7 := Classical.choose_spec (⟨7, rfl⟩ : ∃ n : Nat, n = 7)
/-- at most so much more is lacking behind a day -/
theorem hs_day_5 {A : hs_A} (h : hs_ok A) : A 6 5 ≤ hs_day A 6 5 ∧ hs_day A 6 5 ≤ A 6 5 + 63 := by
  unfold hs_day
  rw [hs_up_n _ (by decide), hs_dP_65]
  have h1 := sp_sm_le (n := A 6 0) (b := 9) (f := fun t => A 2 t - A 3 t) (fun t ht => by
    have := (h.2 t ht).2.2.1
    show A 2 t - A 3 t ≤ 9
    omega)
  have h2 := h.1
  omega
theorem hs_buy_3 (A : hs_A) (t k x : Nat) : hs_buy A t k 3 x = if x = t then sp_w A t k else A 3 x := by
  unfold hs_buy
  rw [hs_up_r _ (by decide)]
  by_cases h : x = t
  · subst h; rw [hs_up_s, if_pos rfl]; rfl
  · rw [hs_up_n _ h, if_neg h]
theorem hs_buy_4 (A : hs_A) (t k : Nat) : hs_buy A t k 6 4 = A 6 4 + k * sp_pr (A 0 t) (A 1 t) := by
  unfold hs_buy; rw [hs_up_s]
theorem hs_ext {A B : hs_A} (h : ∀ j x, A j x = B j x) : A = B := by funext j x; exact h j x
theorem hs_buy_0 {A : hs_A} {t : Nat} (h : A 3 t ≤ 99) : hs_buy A t 0 = A := by
  refine hs_ext (fun j x => ?_)
  by_cases h3 : j = 3
  · subst h3
    rw [hs_buy_3]
    by_cases q : x = t
    · subst q; rw [if_pos rfl]; unfold sp_w; omega
    · rw [if_neg q]
  · by_cases h6 : j = 6
    · subst h6
      by_cases q : x = 4
      · subst q; rw [hs_buy_4]; omega
      · rw [hs_buy_n _ _ _ q]
    · rw [hs_buy_r _ _ _ h3 h6]
/-- packs of the first i things -/
def hs_bP (A : hs_A) (k : Nat) : Nat → hs_A
  | 0 => A
  | i + 1 => hs_buy (hs_bP A k i) i k
theorem hs_ok_bP {A : hs_A} (h : hs_ok A) (k i : Nat) : hs_ok (hs_bP A k i) := by
  induction i with
  | zero => exact h
  | succ i ih => exact hs_ok_buy ih i k
theorem hs_bP_6 (A : hs_A) (k i : Nat) {j : Nat} (h : j ≠ 4) : hs_bP A k i 6 j = A 6 j := by
  induction i with
  | zero => rfl
  | succ i ih => simp only [hs_bP]; rw [hs_buy_n _ _ _ h, ih]
theorem hs_bP_r (A : hs_A) (k i : Nat) {j : Nat} (h3 : j ≠ 3) (h6 : j ≠ 6) : hs_bP A k i j = A j := by
  induction i with
  | zero => rfl
  | succ i ih => simp only [hs_bP]; rw [hs_buy_r _ _ _ h3 h6, ih]
theorem hs_bP_3 (A : hs_A) (k i x : Nat) : hs_bP A k i 3 x = if x < i then sp_w A x k else A 3 x := by
  induction i with
  | zero => simp [hs_bP]
  | succ i ih =>
    simp only [hs_bP]
    rw [hs_buy_3]
    by_cases h : x = i
    · subst h
      rw [if_pos rfl, if_pos (by omega)]
      unfold sp_w
      rw [ih, if_neg (by omega), hs_bP_r _ _ _ (by decide) (by decide)]
    · rw [if_neg h, ih]
      by_cases h2 : x < i
      · rw [if_pos h2, if_pos (by omega)]
      · rw [if_neg h2, if_neg (by omega)]
theorem hs_bP_4 (A : hs_A) (k i : Nat) : hs_bP A k i 6 4 = A 6 4 + sp_sm i (fun t => k * sp_pr (A 0 t) (A 1 t)) := by
  induction i with
  | zero => rfl
  | succ i ih =>
    simp only [hs_bP, sp_sm]
    rw [hs_buy_4, ih, hs_bP_r _ _ _ (j := 0) (by decide) (by decide), hs_bP_r _ _ _ (j := 1) (by decide) (by decide)]
    omega
theorem hs_bP_0 {A : hs_A} (h : hs_ok A) (i : Nat) (hi : i ≤ A 6 0) : hs_bP A 0 i = A := by
  induction i with
  | zero => rfl
  | succ i ih =>
    simp only [hs_bP]
    rw [ih (by omega)]
    exact hs_buy_0 (h.2 i (by omega)).2.2.2
/-- one pack more of everything -/
theorem hs_bP_s (A : hs_A) (k n : Nat) : hs_bP (hs_bP A k n) 1 n = hs_bP A (k + 1) n := by
  refine hs_ext (fun j x => ?_)
  by_cases h3 : j = 3
  · subst h3
    rw [hs_bP_3, hs_bP_3, hs_bP_3]
    by_cases h : x < n
    · rw [if_pos h, if_pos h]
      unfold sp_w
      rw [hs_bP_3, if_pos h, hs_bP_r _ _ _ (by decide) (by decide)]
      unfold sp_w
      have := Nat.add_mul k 1 (sp_pk (A 0 x))
      rw [Nat.one_mul]
      omega
    · rw [if_neg h, if_neg h, if_neg h]
  · by_cases h6 : j = 6
    · subst h6
      by_cases q : x = 4
      · subst q
        rw [hs_bP_4, hs_bP_4, hs_bP_4, hs_bP_r _ _ _ (j := 0) (by decide) (by decide), hs_bP_r _ _ _ (j := 1) (by decide) (by decide), Nat.add_assoc, ← sp_sm_add]
        congr 1
        exact sp_sm_congr (fun i _ => by have := Nat.add_mul k 1 (sp_pr (A 0 i) (A 1 i)); rw [Nat.one_mul]; omega)
      · rw [hs_bP_6 _ _ _ q, hs_bP_6 _ _ _ q, hs_bP_6 _ _ _ q]
    · rw [hs_bP_r _ _ _ h3 h6, hs_bP_r _ _ _ h3 h6, hs_bP_r _ _ _ h3 h6]
theorem hs_sh_bP (B : hs_A) (p l q k : Nat) : ∀ i, hs_bP (hs_sh B p l q) k i = hs_sh (hs_bP B k i) p l q
  | 0 => rfl
  | i + 1 => by simp only [hs_bP]; rw [hs_sh_bP B p l q k i, hs_sh_buy]
/-- intervals -/
def hs_iv (A : hs_A) (k g : Nat) : Nat → hs_A
  | 0 => A
  | d + 1 => hs_day (if d % g = 0 then hs_bP (hs_iv A k g d) k (A 6 0) else hs_iv A k g d)
theorem hs_ok_iv {A : hs_A} (h : hs_ok A) (k g d : Nat) : hs_ok (hs_iv A k g d) := by
  induction d with
  | zero => exact h
  | succ d ih =>
    refine hs_ok_day ?_
    split
    · exact hs_ok_bP ih _ _
    · exact ih
theorem hs_iv_0 (A : hs_A) (k g d : Nat) : hs_iv A k g d 6 0 = A 6 0 := by
  induction d with
  | zero => rfl
  | succ d ih =>
    simp only [hs_iv]
    rw [hs_day_n _ (by decide) (by decide) (by decide)]
    split
    · rw [hs_bP_6 _ _ _ (by decide), ih]
    · exact ih
theorem hs_iv_5 {A : hs_A} (h : hs_ok A) (k g : Nat) : ∀ d, hs_iv A k g d 6 5 ≤ hs_iv A k g (d + 1) 6 5 ∧ hs_iv A k g d 6 5 ≤ A 6 5 + 63 * d
  | 0 => by
    refine ⟨?_, Nat.le_refl _⟩
    simp only [hs_iv]
    split
    · have h1 := (hs_day_5 (hs_ok_bP h k (A 6 0))).1
      rw [hs_bP_6 _ _ _ (by decide)] at h1
      exact h1
    · exact (hs_day_5 h).1
  | d + 1 => by
    obtain ⟨-, h2⟩ := hs_iv_5 h k g d
    have key : ∀ e, hs_iv A k g e 6 5 ≤ hs_iv A k g (e + 1) 6 5 ∧ hs_iv A k g (e + 1) 6 5 ≤ hs_iv A k g e 6 5 + 63 := fun e => by
      have h3 := hs_ok_iv h k g e
      simp only [hs_iv]
      split
      · have h1 := hs_day_5 (hs_ok_bP h3 k (A 6 0))
        rw [hs_bP_6 _ _ _ (by decide)] at h1
        exact h1
      · exact hs_day_5 h3
    have h4 := key d
    exact ⟨(key (d + 1)).1, by omega⟩
theorem hs_iv_mono {A : hs_A} (h : hs_ok A) (k g : Nat) {d e : Nat} (hde : d ≤ e) : hs_iv A k g d 6 5 ≤ hs_iv A k g e 6 5 := by
  induction e with
  | zero => rw [show d = 0 by omega]; exact Nat.le_refl _
  | succ e ih =>
    by_cases q : d = e + 1
    · rw [q]; exact Nat.le_refl _
    · exact Nat.le_trans (ih (by omega)) (hs_iv_5 h k g e).1
theorem hs_sh_iv (B : hs_A) (p l q k g : Nat) : ∀ d, hs_iv (hs_sh B p l q) k g d = hs_sh (hs_iv B k g d) p l q
  | 0 => rfl
  | d + 1 => by
    simp only [hs_iv]
    rw [hs_sh_iv B p l q k g d, hs_sh_bP, hs_sh_n _ _ _ _ (by decide) (by decide) (by decide)]
    split
    · rw [hs_sh_day]
    · rw [hs_sh_day]
noncomputable def sp_en (A : hs_A) (k g : Nat) : Bool := hs_iv A k g sp_n30 6 5 == A 6 5
theorem sp_beq (a b c : Nat) : (a == b) = (a + c == b + c) := by
  by_cases h : a = b
  · subst h; rw [beq_self_eq_true, beq_self_eq_true]
  · rw [beq_false_of_ne h, beq_false_of_ne (by omega)]
theorem sp_en_z (A : hs_A) (k g : Nat) : sp_en (hs_z A) k g = sp_en A k g := by
  have e : sp_en A k g = sp_en (hs_sh (hs_z A) (A 6 4) (A 6 5) (A 6 6)) k g := by rw [hs_sh_z]
  rw [e]
  unfold sp_en
  rw [hs_sh_iv, (hs_sh_6 _ _ _ _).2.1, (hs_sh_6 _ _ _ _).2.1]
  exact sp_beq _ _ _
noncomputable def sp_il (A : hs_A) (k : Nat) : Nat → Option Nat
  | 0 => none
  | g + 1 => if sp_en A k (g + 1) = true then some (g + 1) else sp_il A k g
/-- is one short -/
def sp_sr (A : hs_A) : Nat → Bool
  | 0 => false
  | i + 1 => sp_sr A i || decide (A 3 i < A 2 i)
theorem sp_sr_t {A : hs_A} {i n : Nat} (hi : i < n) (h : A 3 i < A 2 i) : sp_sr A n = true := by
  induction n with
  | zero => exact absurd hi (by omega)
  | succ n ih =>
    simp only [sp_sr]
    by_cases q : i = n
    · subst q; simp [h]
    · rw [ih (by omega)]; rfl
/-- buy what is below f days -/
def hs_bb (f : Nat) (A : hs_A) : Nat → hs_A
  | 0 => A
  | i + 1 => if f * hs_bb f A i 2 i ≤ hs_bb f A i 3 i then hs_bb f A i else hs_buy (hs_bb f A i) i 1
theorem hs_ok_bb {A : hs_A} (h : hs_ok A) (f i : Nat) : hs_ok (hs_bb f A i) := by
  induction i with
  | zero => exact h
  | succ i ih =>
    simp only [hs_bb]
    split
    · exact ih
    · exact hs_ok_buy ih i 1
theorem hs_bb_6 (f : Nat) (A : hs_A) (i : Nat) {j : Nat} (h : j ≠ 4) : hs_bb f A i 6 j = A 6 j := by
  induction i with
  | zero => rfl
  | succ i ih =>
    simp only [hs_bb]
    split
    · exact ih
    · rw [hs_buy_n _ _ _ h, ih]
theorem hs_sh_bb (f : Nat) (B : hs_A) (p l q : Nat) : ∀ i, hs_bb f (hs_sh B p l q) i = hs_sh (hs_bb f B i) p l q
  | 0 => rfl
  | i + 1 => by
    simp only [hs_bb]
    rw [hs_sh_bb f B p l q i, hs_sh_buy, hs_sh_r _ _ _ _ (j := 2) (by decide), hs_sh_r _ _ _ _ (j := 3) (by decide)]
    split
    · rfl
    · rfl
/-- turns -/
def sp_go (w : Nat) (A : hs_A) : Bool := if w = 0 then A 6 2 % 2 == 0 else sp_sr A (A 6 0)
def hs_tn (w : Nat) (A : hs_A) : Nat → hs_A
  | 0 => A
  | d + 1 => hs_day (if sp_go w (hs_tn w A d) = true then hs_bb 2 (hs_tn w A d) (A 6 0) else hs_tn w A d)
def sp_tc (w : Nat) (A : hs_A) : Nat → Nat
  | 0 => 0
  | d + 1 => sp_tc w A d + (if sp_go w (hs_tn w A d) = true then 1 else 0)
theorem hs_ok_tn {A : hs_A} (h : hs_ok A) (w d : Nat) : hs_ok (hs_tn w A d) := by
  induction d with
  | zero => exact h
  | succ d ih =>
    refine hs_ok_day ?_
    split
    · exact hs_ok_bb ih _ _
    · exact ih
theorem hs_tn_6 (w : Nat) (A : hs_A) (d : Nat) {j : Nat} (h2 : j ≠ 2) (h4 : j ≠ 4) (h5 : j ≠ 5) (h6 : j ≠ 6) : hs_tn w A d 6 j = A 6 j := by
  induction d with
  | zero => rfl
  | succ d ih =>
    simp only [hs_tn]
    rw [hs_day_n _ h2 h5 h6]
    split
    · rw [hs_bb_6 _ _ _ h4, ih]
    · exact ih
theorem hs_day_2 (A : hs_A) : hs_day A 6 2 = A 6 2 + 1 := by unfold hs_day; rw [hs_up_s]
theorem hs_tn_2 (w : Nat) (A : hs_A) (d : Nat) : hs_tn w A d 6 2 = A 6 2 + d := by
  induction d with
  | zero => rfl
  | succ d ih =>
    simp only [hs_tn]
    rw [hs_day_2]
    split
    · rw [hs_bb_6 _ _ _ (by decide), ih]; omega
    · rw [ih]; omega
theorem sp_sr_sh (B : hs_A) (p l q : Nat) (i : Nat) : sp_sr (hs_sh B p l q) i = sp_sr B i := by
  induction i with
  | zero => rfl
  | succ i ih => simp only [sp_sr]; rw [ih, hs_sh_r _ _ _ _ (by decide), hs_sh_r _ _ _ _ (by decide)]
theorem sp_go_sh (w : Nat) (B : hs_A) (p l q : Nat) : sp_go w (hs_sh B p l q) = sp_go w B := by
  unfold sp_go
  rw [sp_sr_sh, hs_sh_n _ _ _ _ (by decide) (by decide) (by decide), hs_sh_n _ _ _ _ (by decide) (by decide) (by decide)]
theorem hs_sh_tn (w : Nat) (B : hs_A) (p l q : Nat) : ∀ d, hs_tn w (hs_sh B p l q) d = hs_sh (hs_tn w B d) p l q
  | 0 => rfl
  | d + 1 => by
    simp only [hs_tn]
    rw [hs_sh_tn w B p l q d, sp_go_sh, hs_sh_bb, hs_sh_n _ _ _ _ (by decide) (by decide) (by decide)]
    split
    · rw [hs_sh_day]
    · rw [hs_sh_day]
theorem sp_tc_sh (w : Nat) (B : hs_A) (p l q d : Nat) : sp_tc w (hs_sh B p l q) d = sp_tc w B d := by
  induction d with
  | zero => rfl
  | succ d ih => simp only [sp_tc]; rw [ih, hs_sh_tn, sp_go_sh]
/-- the month -/
def hs_mo (A : hs_A) : Nat → hs_A
  | 0 => A
  | d + 1 => hs_day (hs_bb 1 (hs_mo A d) (A 6 0))
theorem hs_ok_mo {A : hs_A} (h : hs_ok A) (d : Nat) : hs_ok (hs_mo A d) := by
  induction d with
  | zero => exact h
  | succ d ih => exact hs_ok_day (hs_ok_bb ih _ _)
theorem hs_mo_0 (A : hs_A) (d : Nat) : hs_mo A d 6 0 = A 6 0 := by
  induction d with
  | zero => rfl
  | succ d ih =>
    simp only [hs_mo]
    rw [hs_day_n _ (by decide) (by decide) (by decide), hs_bb_6 _ _ _ (by decide), ih]
theorem hs_sh_mo (B : hs_A) (p l q : Nat) : ∀ d, hs_mo (hs_sh B p l q) d = hs_sh (hs_mo B d) p l q
  | 0 => rfl
  | d + 1 => by
    simp only [hs_mo]
    rw [hs_sh_mo B p l q d, hs_sh_bb, hs_sh_n _ _ _ _ (by decide) (by decide) (by decide), hs_sh_day]
/-- swaps -/
def hs_sw (A : hs_A) (i j : Nat) : hs_A := hs_up (hs_up A 2 i (A 2 j)) 2 j (A 2 i)
def sp_l7 (A : hs_A) : Nat := sp_sm (A 6 0) (fun t => sp_lN (A 0 t) (A 1 t) (A 2 t) 7 (A 3 t))
theorem hs_ok_sw {A : hs_A} (h : hs_ok A) {i j : Nat} (hi : i < A 6 0) (hj : j < A 6 0) : hs_ok (hs_sw A i j) :=
  hs_ok_up2 (hs_ok_up2 h i (h.2 j hj).2.2.1) j (h.2 i hi).2.2.1
theorem hs_sw_r (A : hs_A) (i j : Nat) {k : Nat} (h : k ≠ 2) : hs_sw A i j k = A k := by
  unfold hs_sw; rw [hs_up_r _ h, hs_up_r _ h]
theorem hs_sw_sw (A : hs_A) {i j : Nat} (h : i ≠ j) : hs_sw (hs_sw A i j) i j = A := by
  refine hs_ext (fun k x => ?_)
  by_cases q : k = 2
  · subst q
    simp only [hs_sw, hs_up, if_true, if_neg h, if_neg (Ne.symm h)]
    by_cases hx : x = j
    · subst hx; rw [if_pos rfl]
    · rw [if_neg hx]
      by_cases hx2 : x = i
      · subst hx2; rw [if_pos rfl]
      · rw [if_neg hx2, if_neg hx, if_neg hx2]
  · rw [hs_sw_r _ _ _ q, hs_sw_r _ _ _ q]
theorem sp_l7_le {A : hs_A} (hok : hs_ok A) : sp_l7 A ≤ 441 := by
  have h := sp_sm_le (n := A 6 0) (b := 63) (f := fun t => sp_lN (A 0 t) (A 1 t) (A 2 t) 7 (A 3 t)) (fun t ht => by
    have h1 := sp_lN_le (A 0 t) (A 1 t) (A 2 t) 7 (A 3 t)
    have h2 := (hok.2 t ht).2.2.1
    show sp_lN (A 0 t) (A 1 t) (A 2 t) 7 (A 3 t) ≤ 63
    omega)
  have h2 := hok.1
  unfold sp_l7
  omega
def sp_wi (A : hs_A) (i : Nat) (s : Option Nat × Nat) : Nat → Option Nat × Nat
  | 0 => s
  | m + 1 => if sp_l7 (hs_sw A i (i + 1 + m)) < (sp_wi A i s m).2 then (some (10 * i + (i + 1 + m)), sp_l7 (hs_sw A i (i + 1 + m))) else sp_wi A i s m
def sp_wo (A : hs_A) : Nat → Option Nat × Nat
  | 0 => (none, sp_l7 A)
  | i + 1 => sp_wi A i (sp_wo A i) (A 6 0 - (i + 1))
theorem sp_wi_le {A : hs_A} (hok : hs_ok A) (i : Nat) {s : Option Nat × Nat} (hs : s.2 ≤ 441) : ∀ m, i + 1 + m ≤ A 6 0 → (sp_wi A i s m).2 ≤ 441
  | 0, _ => hs
  | m + 1, h => by
    simp only [sp_wi]
    split
    · exact sp_l7_le (hs_ok_sw hok (by omega) (by omega))
    · exact sp_wi_le hok i hs m (by omega)
theorem sp_wo_le {A : hs_A} (hok : hs_ok A) : ∀ i, i ≤ A 6 0 → (sp_wo A i).2 ≤ 441
  | 0, _ => sp_l7_le hok
  | i + 1, h => by
    simp only [sp_wo]
    exact sp_wi_le hok i (sp_wo_le hok i (by omega)) _ (by omega)
/-- lots -/
def sp_dn (s : Int32) : Int32 := s * 1103515245 + 12345
def sp_dw (s : Int32) : Nat := s.toBitVec.toNat % 2 ^ 31 / 65536 % 2
theorem sp_dw_e (s : Int32) : ((s &&& (2147483647 : Int32)) / (65536 : Int32)) - ((s &&& (2147483647 : Int32)) / (65536 : Int32)) / (2 : Int32) * (2 : Int32) = nI (sp_dw s) := by
  have e := pk_and s (m := (2147483647 : Int32)) 31 (by decide)
  have h := Nat.mod_lt s.toBitVec.toNat (Nat.two_pow_pos 31)
  rw [e, show (65536 : Int32) = nI 65536 from rfl, mi_2, pk_div h (by decide) (by decide), pk_rem (by omega) (by decide) (by decide)]
  rfl
theorem sp_dw_lt (s : Int32) : sp_dw s < 2 := Nat.mod_lt _ (by decide)
def hs_lt (s : Int32) (A : hs_A) : Nat → Int32 × hs_A
  | 0 => (s, A)
  | i + 1 => (sp_dn (hs_lt s A i).1, hs_buy (hs_lt s A i).2 i (sp_dw (sp_dn (hs_lt s A i).1)))
def hs_ld (s : Int32) (A : hs_A) : Nat → Int32 × hs_A
  | 0 => (s, A)
  | d + 1 => ((hs_lt (hs_ld s A d).1 (hs_ld s A d).2 (A 6 0)).1, hs_day (hs_lt (hs_ld s A d).1 (hs_ld s A d).2 (A 6 0)).2)
noncomputable def hs_lw (s : Int32) (A : hs_A) : Nat → Int32 × Nat × Nat
  | 0 => (s, 0, 0)
  | w + 1 => ((hs_ld (hs_lw s A w).1 A sp_n7).1, (hs_lw s A w).2.1 + ((hs_ld (hs_lw s A w).1 A sp_n7).2 6 5 - A 6 5), (hs_lw s A w).2.2 + ((hs_ld (hs_lw s A w).1 A sp_n7).2 6 4 - A 6 4))
theorem hs_ok_lt {A : hs_A} (h : hs_ok A) (s : Int32) (i : Nat) : hs_ok (hs_lt s A i).2 := by
  induction i with
  | zero => exact h
  | succ i ih => exact hs_ok_buy ih i _
theorem hs_lt_6 (s : Int32) (A : hs_A) (i : Nat) {j : Nat} (h : j ≠ 4) : (hs_lt s A i).2 6 j = A 6 j := by
  induction i with
  | zero => rfl
  | succ i ih => simp only [hs_lt]; rw [hs_buy_n _ _ _ h, ih]
theorem hs_lt_4 (s : Int32) (A : hs_A) (i : Nat) : A 6 4 ≤ (hs_lt s A i).2 6 4 := by
  induction i with
  | zero => exact Nat.le_refl _
  | succ i ih => simp only [hs_lt]; rw [hs_buy_4]; omega
theorem hs_ok_ld {A : hs_A} (h : hs_ok A) (s : Int32) (d : Nat) : hs_ok (hs_ld s A d).2 := by
  induction d with
  | zero => exact h
  | succ d ih => exact hs_ok_day (hs_ok_lt ih _ _)
theorem hs_ld_0 (s : Int32) (A : hs_A) (d : Nat) : (hs_ld s A d).2 6 0 = A 6 0 := by
  induction d with
  | zero => rfl
  | succ d ih => simp only [hs_ld]; rw [hs_day_n _ (by decide) (by decide) (by decide), hs_lt_6 _ _ _ (by decide), ih]
theorem hs_ld_45 {A : hs_A} (hok : hs_ok A) (s : Int32) (d : Nat) : A 6 4 ≤ (hs_ld s A d).2 6 4 ∧ A 6 5 ≤ (hs_ld s A d).2 6 5 := by
  induction d with
  | zero => exact ⟨Nat.le_refl _, Nat.le_refl _⟩
  | succ d ih =>
    simp only [hs_ld]
    have h1 := hs_lt_4 (hs_ld s A d).1 (hs_ld s A d).2 (A 6 0)
    have h2 := (hs_day_5 (hs_ok_lt (hs_ok_ld hok s d) (hs_ld s A d).1 (A 6 0))).1
    rw [hs_lt_6 _ _ _ (by decide)] at h2
    rw [hs_day_n _ (by decide) (by decide) (by decide)]
    omega
theorem hs_sh_lt (s : Int32) (B : hs_A) (p l q : Nat) : ∀ i, hs_lt s (hs_sh B p l q) i = ((hs_lt s B i).1, hs_sh (hs_lt s B i).2 p l q)
  | 0 => rfl
  | i + 1 => by simp only [hs_lt]; rw [hs_sh_lt s B p l q i, hs_sh_buy]
theorem hs_sh_ld (s : Int32) (B : hs_A) (p l q : Nat) : ∀ d, hs_ld s (hs_sh B p l q) d = ((hs_ld s B d).1, hs_sh (hs_ld s B d).2 p l q)
  | 0 => rfl
  | d + 1 => by
    simp only [hs_ld]
    rw [hs_sh_ld s B p l q d, hs_sh_n _ _ _ _ (by decide) (by decide) (by decide)]
    simp only
    rw [hs_sh_lt, hs_sh_day]
theorem hs_lw_z (s : Int32) (A : hs_A) (w : Nat) : hs_lw s (hs_z A) w = hs_lw s A w := by
  have e : hs_lw s A w = hs_lw s (hs_sh (hs_z A) (A 6 4) (A 6 5) (A 6 6)) w := by rw [hs_sh_z]
  rw [e]
  induction w with
  | zero => rfl
  | succ w ih =>
    simp only [hs_lw]
    rw [← ih (by rw [hs_sh_z]), hs_sh_ld, (hs_sh_6 _ _ _ _).2.1, (hs_sh_6 _ _ _ _).1]
    simp only
    rw [(hs_sh_6 _ _ _ _).2.1, (hs_sh_6 _ _ _ _).1, Nat.add_sub_add_right, Nat.add_sub_add_right]

/-! BITS -/
theorem nx_or (a b : Nat) : nI a ||| nI b = nI (a ||| b) := by
  apply Int32.toBitVec_inj.1
  show BitVec.ofNat 32 a ||| BitVec.ofNat 32 b = BitVec.ofNat 32 (a ||| b)
  apply BitVec.eq_of_getLsbD_eq
  intro i hi
  simp [BitVec.getLsbD_ofNat, hi, Nat.testBit_or]
theorem nx_xor (a b : Nat) : nI a ^^^ nI b = nI (a ^^^ b) := by
  apply Int32.toBitVec_inj.1
  show BitVec.ofNat 32 a ^^^ BitVec.ofNat 32 b = BitVec.ofNat 32 (a ^^^ b)
  apply BitVec.eq_of_getLsbD_eq
  intro i hi
  simp [BitVec.getLsbD_ofNat, hi, Nat.testBit_xor]
/-- a without b -/
def sp_an (a b : Nat) : Nat := a &&& (a ^^^ b)
theorem sp_an_t (a b t : Nat) : (sp_an a b).testBit t = (a.testBit t && !b.testBit t) := by
  unfold sp_an
  rw [Nat.testBit_and, Nat.testBit_xor]
  cases a.testBit t <;> cases b.testBit t <;> rfl
theorem nx_andn (a b : Nat) : nI a &&& (nI b ^^^ (-1 : Int32)) = nI (sp_an a b) := by
  apply Int32.toBitVec_inj.1
  show BitVec.ofNat 32 a &&& (BitVec.ofNat 32 b ^^^ BitVec.allOnes 32) = BitVec.ofNat 32 (sp_an a b)
  apply BitVec.eq_of_getLsbD_eq
  intro i hi
  rw [BitVec.getLsbD_and, BitVec.getLsbD_xor, BitVec.getLsbD_ofNat, BitVec.getLsbD_ofNat, BitVec.getLsbD_ofNat, BitVec.getLsbD_allOnes, sp_an_t]
  simp [hi]
theorem nx_shl {r : Nat} (hr : r < 31) : (1 : Int32) <<< (nI r &&& 31) = nI (2 ^ r) := by
  have h : ∀ r, r < 31 → (1 : Int32) <<< (nI r &&& 31) = nI (2 ^ r) := by decide +kernel
  exact h r hr
/-- a mask of bits -/
def sp_mk (b : Nat → Bool) : Nat → Nat
  | 0 => 0
  | n + 1 => sp_mk b n ||| (if b n = true then 2 ^ n else 0)
theorem sp_mk_t (b : Nat → Bool) (n t : Nat) : (sp_mk b n).testBit t = (decide (t < n) && b t) := by
  induction n with
  | zero => simp [sp_mk]
  | succ n ih =>
    simp only [sp_mk]
    rw [Nat.testBit_or, ih]
    by_cases h : t = n
    · subst h
      have h1 : decide (t < t) = false := by simp
      have h2 : decide (t < t + 1) = true := by simp
      rw [h1, h2]
      cases b t with
      | true => rw [if_pos rfl, Nat.testBit_two_pow_self]; rfl
      | false => rw [if_neg (by decide), Nat.zero_testBit]; rfl
    · have h1 : (if b n = true then 2 ^ n else 0).testBit t = false := by
        split
        · rw [Nat.testBit_two_pow]; simp [Ne.symm h]
        · exact Nat.zero_testBit t
      rw [h1, Bool.or_false]
      by_cases h2 : t < n
      · have h3 : t < n + 1 := by omega
        simp [h2, h3]
      · have h3 : ¬ t < n + 1 := by omega
        simp [h2, h3]
theorem sp_mk_lt (b : Nat → Bool) (n : Nat) : sp_mk b n < 2 ^ n := by
  apply Nat.lt_pow_two_of_testBit
  intro i hi
  rw [sp_mk_t]
  have : ¬ i < n := by omega
  simp [this]
theorem sp_mk_eq {b : Nat → Bool} {n w : Nat} (hw : w < 2 ^ n) (h : ∀ t, t < n → w.testBit t = b t) : w = sp_mk b n := by
  apply Nat.eq_of_testBit_eq
  intro t
  rw [sp_mk_t]
  by_cases q : t < n
  · rw [h t q]; simp [q]
  · have h1 : w < 2 ^ t := Nat.lt_of_lt_of_le hw (Nat.pow_le_pow_right (by decide) (by omega))
    rw [Nat.testBit_lt_two_pow h1]
    simp [q]
theorem sp_mk_congr {b c : Nat → Bool} {n : Nat} (h : ∀ t, t < n → b t = c t) : sp_mk b n = sp_mk c n := by
  induction n with
  | zero => rfl
  | succ n ih => simp only [sp_mk]; rw [ih (fun t ht => h t (by omega)), h n (by omega)]
theorem sp_and_lt {a b n : Nat} (h : a < 2 ^ n) : a &&& b < 2 ^ n := Nat.lt_of_le_of_lt Nat.and_le_left h
theorem sp_an_lt {a b n : Nat} (h : a < 2 ^ n) : sp_an a b < 2 ^ n := sp_and_lt h
theorem sp_or_lt {a b n : Nat} (h : a < 2 ^ n) (h2 : b < 2 ^ n) : a ||| b < 2 ^ n := Nat.or_lt_two_pow h h2
theorem sp_xor_lt {a b n : Nat} (h : a < 2 ^ n) (h2 : b < 2 ^ n) : a ^^^ b < 2 ^ n := Nat.xor_lt_two_pow h h2
theorem sp_lt7 {w n : Nat} (h : w < 2 ^ n) (hn : n ≤ 7) : w < 128 := Nat.lt_of_lt_of_le h (sp_pw n hn).1
/-- how many bits -/
def sp_pc (m : Nat) : Nat := sp_sm 31 (fun t => if m.testBit t then 1 else 0)
theorem kd_pc : ∀ m, m < 128 → f_J6_bitCount (nI m) = some (nI (sp_pc m)) := by decide +kernel
theorem sp_pc_le (m : Nat) : sp_pc m ≤ 31 := by
  have h := sp_sm_le (n := 31) (b := 1) (f := fun t => if m.testBit t then 1 else 0) (fun i _ => by split <;> omega)
  unfold sp_pc
  omega
theorem xm_bits {m : Nat} (hm : m < 2 ^ 31) : f_X12_bits (nI m) = some (nI (sp_pc m)) := by
  unfold f_X12_bits
  refine mt_lz2 (P := fun r => r = some (nI (sp_pc m))) (fun i x y => x = nI (sp_sm i (fun t => if m.testBit t then 1 else 0)) ∧ y = nI i) 31 (by decide) ?_ ?_ ⟨rfl, rfl⟩
  · rintro i hi x y ⟨rfl, rfl⟩ k
    left
    refine ⟨_, _, ⟨rfl, rfl⟩, ?_⟩
    rw [mi_31, if_neg (nI_ge hi (by omega)), ← mi_31, mt_bitN hm hi]
    simp only [mt_ltE, nI_1, sp_sm]
    by_cases q : m.testBit i = true
    · rw [if_pos q, if_pos q, nI_1]
    · rw [if_neg q, if_neg q, mi_0, nI_add]
  · rintro x y ⟨rfl, rfl⟩ k
    rw [mi_31, if_pos (nI_le (Nat.le_refl _) (by omega))]
    rfl
theorem xm_has {m t : Nat} (hm : m < 2 ^ 31) (ht : t < 31) : f_X12_has (nI m) (nI t) = some (if m.testBit t = true then 1 else 0) := by
  unfold f_X12_has
  simp only [mt_bit1 hm ht]
  split <;> rfl
theorem mt_wr_wr (m : mt_M) (a k : Nat) (x y : Int32) : mt_wr (mt_wr m a k x) a k y = mt_wr m a k y := by
  funext b j
  by_cases h : b = a
  · subst h
    by_cases q : j = k
    · subst q; rw [mt_wr_s, mt_wr_s]
    · rw [mt_wr_n q, mt_wr_n q, mt_wr_n q]
  · rw [mt_wr_ne h, mt_wr_ne h, mt_wr_ne h]
theorem mt_wr_id (m : mt_M) (a k : Nat) : mt_wr m a k (m a k) = m := by
  funext b j
  by_cases h : b = a
  · subst h
    by_cases q : j = k
    · subst q; rw [mt_wr_s]
    · rw [mt_wr_n q]
  · rw [mt_wr_ne h]

/-! THE LISTS: spec and class -/
theorem sp_mk_xor (b c : Nat → Bool) (n : Nat) : sp_mk b n ^^^ sp_mk c n = sp_mk (fun t => b t ^^ c t) n := by
  refine sp_mk_eq (sp_xor_lt (sp_mk_lt b n) (sp_mk_lt c n)) (fun t ht => ?_)
  rw [Nat.testBit_xor, sp_mk_t, sp_mk_t]; simp [ht]
theorem sp_mk_and (b c : Nat → Bool) (n : Nat) : sp_mk b n &&& sp_mk c n = sp_mk (fun t => b t && c t) n := by
  refine sp_mk_eq (sp_and_lt (sp_mk_lt b n)) (fun t ht => ?_)
  rw [Nat.testBit_and, sp_mk_t, sp_mk_t]; simp [ht]
theorem sp_mk_or (b c : Nat → Bool) (n : Nat) : sp_mk b n ||| sp_mk c n = sp_mk (fun t => b t || c t) n := by
  refine sp_mk_eq (sp_or_lt (sp_mk_lt b n) (sp_mk_lt c n)) (fun t ht => ?_)
  rw [Nat.testBit_or, sp_mk_t, sp_mk_t]; simp [ht]
theorem sp_mk_an (b c : Nat → Bool) (n : Nat) : sp_an (sp_mk b n) (sp_mk c n) = sp_mk (fun t => b t && !c t) n := by
  refine sp_mk_eq (sp_an_lt (sp_mk_lt b n)) (fun t ht => ?_)
  rw [sp_an_t, sp_mk_t, sp_mk_t]; simp [ht]
theorem sp_mk_id {w n : Nat} (hw : w < 2 ^ n) : sp_mk w.testBit n = w := (sp_mk_eq hw (fun _ _ => rfl)).symm
theorem sp_pc_n {w n : Nat} (hw : w < 2 ^ n) (hn : n ≤ 31) : sp_pc w = sp_sm n (fun t => if w.testBit t = true then 1 else 0) := by
  have key : ∀ m, n ≤ m → sp_sm m (fun t => if w.testBit t = true then 1 else 0) = sp_sm n (fun t => if w.testBit t = true then 1 else 0) := by
    intro m
    induction m with
    | zero => intro h; rw [show n = 0 by omega]
    | succ m ih =>
      intro h
      by_cases q : n = m + 1
      · rw [q]
      · simp only [sp_sm]
        rw [ih (by omega), Nat.testBit_lt_two_pow (Nat.lt_of_lt_of_le hw (Nat.pow_le_pow_right (by decide) (by omega)))]
        rfl
  exact key 31 hn
theorem sp_pc_mk (b : Nat → Bool) {n : Nat} (hn : n ≤ 31) : sp_pc (sp_mk b n) = sp_sm n (fun t => if b t = true then 1 else 0) := by
  rw [sp_pc_n (sp_mk_lt b n) hn]
  refine sp_sm_congr (fun i hi => ?_)
  rw [sp_mk_t]
  simp [hi]
/-- the two lists' wants; is list 1's line the later one (list 1's clock a on) -/
def sp_lr (A : hs_A) (t : Nat) (a : Int32) : Bool := !decide (nI (A 5 t) + a ≤ nI (A 4 t))
def sp_lw (A : hs_A) (a : Int32) (t : Nat) : Bool := if sp_lr A t a = true then (A 6 8).testBit t else (A 6 7).testBit t
def sp_cl (A : hs_A) (a t : Nat) : Bool := decide (A 4 t - A 5 t + (A 5 t - A 4 t) ≤ a)
def sp_wb (A : hs_A) (r t : Nat) : Bool := if r = 1 then (A 6 7).testBit t || (A 6 8).testBit t else if r = 2 then (A 6 7).testBit t && (A 6 8).testBit t else if r = 3 then (if sp_cl A 2 t = true then (A 6 7).testBit t || (A 6 8).testBit t else sp_lw A 0 t) else sp_lw A 0 t
def hs_wf (A : hs_A) : Prop := hs_ok A ∧ (A 6 1 ≤ 999 ∧ A 6 2 ≤ 999 ∧ A 6 3 ≤ 3) ∧ (A 6 7 < 2 ^ A 6 0 ∧ A 6 8 < 2 ^ A 6 0) ∧ (∀ t, t < 7 → A 4 t ≤ 999 ∧ A 5 t ≤ 999 ∧ (A 6 0 ≤ t → A 4 t = 0 ∧ A 5 t = 0)) ∧ A 6 4 ≤ 55 * A 6 1 ∧ A 6 5 ≤ 63 * A 6 2 ∧ A 6 6 ≤ 693 * A 6 2
theorem hs_wf.tb {A : hs_A} (h : hs_wf A) : hs_tb A := by
  obtain ⟨-, ⟨h1, h2, -⟩, -, -, h4, h5, h6⟩ := h
  exact ⟨by omega, by omega, by omega⟩
theorem hs_wf.m {A : hs_A} (h : hs_wf A) : A 6 7 < 128 ∧ A 6 8 < 128 := ⟨sp_lt7 h.2.2.1.1 h.1.1, sp_lt7 h.2.2.1.2 h.1.1⟩
/-- a house of the class -/
def hv (h : Nat) (M : mt_M) (A : hs_A) : Prop := (M h 3 = nI (A 6 1) ∧ M h 4 = nI (A 6 2) ∧ M h 5 = nI (A 6 3) ∧ M (h + 1) 0 = nI (A 6 7) ∧ M (h + 1) 1 = nI (A 6 8)) ∧ (∀ t, t < 7 → M (h + 2) t = nI (A 4 t) ∧ M (h + 2) (7 + t) = nI (A 5 t)) ∧ cv (h + 3) M A
theorem hv_frame {h : Nat} {M M' : mt_M} {A : hs_A} (hh : hv h M A) (hf : ∀ id, h ≤ id → id < h + 10 → M' id = M id) : hv h M' A := by
  obtain ⟨h0, h1, h2⟩ := hh
  refine ⟨?_, fun t ht => ?_, cv_frame h2 (fun id a b => hf id (by omega) (by omega))⟩
  · rw [hf h (by omega) (by omega), hf (h + 1) (by omega) (by omega)]; exact h0
  · rw [hf (h + 2) (by omega) (by omega)]; exact h1 t ht
theorem mt_abs {x y : Nat} (hx : x ≤ 999) (hy : y ≤ 999) : (if 0 ≤ nI x - nI y then nI x - nI y else 0 - (nI x - nI y)) = nI (x - y + (y - x)) := by
  by_cases h : y ≤ x
  · rw [pk_sub h, if_pos (nI_pos' (by omega)), show y - x = 0 by omega, Nat.add_zero]
  · have h1 := pk_sneg (a := x) (b := y) (by omega) (by omega)
    rw [if_neg (fun q => Int32.lt_irrefl (Int32.lt_of_lt_of_le h1 q)), Int32.zero_sub, Int32.neg_sub, pk_sub (by omega), show x - y = 0 by omega, Nat.zero_add]
theorem mt_isIn {x y a : Nat} (hx : x ≤ 999) (hy : y ≤ 999) (ha : a ≤ 999) : f_X12_isIn (nI x - nI y) (-nI a) (nI a) = some (if x - y + (y - x) ≤ a then 1 else 0) := by
  have e1 := pk_sub_toInt (a := x) (b := y) (by omega) (by omega)
  have e2 : (-nI a).toInt = -(a : Int) := by
    have h := pk_sub_toInt (a := 0) (b := a) (by omega) (by omega)
    rw [show nI 0 - nI a = -nI a from Int32.zero_sub _] at h
    rw [h]
    omega
  have e3 := nI_toInt (n := a) (by omega)
  unfold f_X12_isIn
  by_cases h1 : nI x - nI y < -nI a
  · rw [if_pos h1, if_neg]
    rw [Int32.lt_iff_toInt_lt, e1, e2] at h1
    omega
  · rw [if_neg h1]
    rw [Int32.lt_iff_toInt_lt, e1, e2] at h1
    by_cases h2 : nI a < nI x - nI y
    · rw [if_pos h2, if_neg]
      rw [Int32.lt_iff_toInt_lt, e1, e3] at h2
      omega
    · rw [if_neg h2, if_pos]
      rw [Int32.lt_iff_toInt_lt, e1, e3] at h2
      omega
section HC
variable {h : Nat} {M : mt_M} {A : hs_A} {t : Nat}
theorem hc_later (hh : hv h M A) (hwf : hs_wf A) (a : Int32) : f_X4_laterWants h a M = some (nI (sp_mk (sp_lw A a) (A 6 0))) := by
  obtain ⟨h0, h1, h2⟩ := hh
  have h7 := hwf.1.1
  obtain ⟨m1, m2⟩ := hwf.m
  unfold f_X4_laterWants
  refine mt_lz2 (P := fun r => r = some (nI (sp_mk (sp_lw A a) (A 6 0)))) (fun i x y => x = nI (sp_mk (sp_lw A a) i) ∧ y = nI i) (A 6 0) (by omega) ?_ ?_ ⟨rfl, rfl⟩
  · rintro i hi x y ⟨rfl, rfl⟩ k
    left
    obtain ⟨c0, c1⟩ := h1 i (by omega)
    have hin : vp_in (nI i) 14 := vp_in_nI (by omega) (by omega)
    have hcl : (nI i).toNatClampNeg = i := nI_clamp (by omega)
    have hin7 : vp_in (nI (7 + i)) 14 := vp_in_nI (by omega) (by omega)
    have hcl7 : (nI (7 + i)).toNatClampNeg = 7 + i := nI_clamp (by omega)
    have hl0 : vp_in (0 : Int32) 2 := vp_in_nI (n := 0) (by omega) (by omega)
    have hl1 : vp_in (1 : Int32) 2 := vp_in_nI (n := 1) (by omega) (by omega)
    refine ⟨_, _, ⟨rfl, rfl⟩, ?_⟩
    rw [h2.1.1, if_neg (nI_ge hi (by omega))]
    simp only [mt_ltE, mi_7, nI_add, mt_ci_t hin, mt_ci_t hin7, hcl, hcl7, c0, c1, mt_ci_t hl0, mt_ci_t hl1, mc_0, mc_1, h0.2.2.2.1, h0.2.2.2.2, nx_shl (show i < 31 by omega), nx_and, nx_or, nI_1]
    have key : ∀ w, w &&& 2 ^ i = if w.testBit i = true then 2 ^ i else 0 := fun w => by
      apply Nat.eq_of_testBit_eq
      intro j
      rw [Nat.testBit_and, Nat.testBit_two_pow]
      by_cases q : i = j
      · subst q
        cases q2 : w.testBit i
        · simp
        · simp [Nat.testBit_two_pow_self]
      · split
        · rw [Nat.testBit_two_pow]; simp [q]
        · simp [q]
    have el : sp_lw A a i = if nI (A 5 i) + a ≤ nI (A 4 i) then (A 6 7).testBit i else (A 6 8).testBit i := by
      unfold sp_lw sp_lr
      by_cases z : nI (A 5 i) + a ≤ nI (A 4 i)
      · simp [z]
      · simp [z]
    simp only [sp_mk, el]
    by_cases z : nI (A 5 i) + a ≤ nI (A 4 i)
    · rw [if_pos z, key]; simp only [if_pos z]
    · rw [if_neg z, key]; simp only [if_neg z]
  · rintro x y ⟨rfl, rfl⟩ k
    rw [h2.1.1, if_pos (nI_le (Nat.le_refl _) (by omega))]
theorem hc_close (hh : hv h M A) (hwf : hs_wf A) {a : Nat} (ha : a ≤ 999) : f_X4_closeTogether h (nI a) M = some (nI (sp_mk (sp_cl A a) (A 6 0))) := by
  obtain ⟨h0, h1, h2⟩ := hh
  have h7 := hwf.1.1
  unfold f_X4_closeTogether
  refine mt_lz2 (P := fun r => r = some (nI (sp_mk (sp_cl A a) (A 6 0)))) (fun i x y => x = nI (sp_mk (sp_cl A a) i) ∧ y = nI i) (A 6 0) (by omega) ?_ ?_ ⟨rfl, rfl⟩
  · rintro i hi x y ⟨rfl, rfl⟩ k
    left
    obtain ⟨c0, c1⟩ := h1 i (by omega)
    obtain ⟨b0, b1, -⟩ := hwf.2.2.2.1 i (by omega)
    have hin : vp_in (nI i) 14 := vp_in_nI (by omega) (by omega)
    have hcl : (nI i).toNatClampNeg = i := nI_clamp (by omega)
    have hin7 : vp_in (nI (7 + i)) 14 := vp_in_nI (by omega) (by omega)
    have hcl7 : (nI (7 + i)).toNatClampNeg = 7 + i := nI_clamp (by omega)
    refine ⟨_, _, ⟨rfl, rfl⟩, ?_⟩
    rw [h2.1.1, if_neg (nI_ge hi (by omega))]
    simp only [mt_ltE, mi_7, nI_add, mt_ci_t hin, mt_ci_t hin7, hcl, hcl7, c0, c1, mt_abs b0 b1, nx_shl (show i < 31 by omega), nx_or, nI_1, sp_mk]
    have el : (sp_cl A a i = true) = (A 4 i - A 5 i + (A 5 i - A 4 i) ≤ a) := by unfold sp_cl; simp
    by_cases z : A 4 i - A 5 i + (A 5 i - A 4 i) ≤ a
    · rw [if_neg (nI_nlt z (by omega))]; simp only [el, if_pos z]
    · rw [if_pos (nI_lt (by omega) (by omega))]; simp only [el, if_neg z, Nat.or_zero]
  · rintro x y ⟨rfl, rfl⟩ k
    rw [h2.1.1, if_pos (nI_le (Nat.le_refl _) (by omega))]
theorem hc_never (hh : hv h M A) (hwf : hs_wf A) : f_X4_neverMarked h M = some (nI (sp_mk (fun t => decide (A 4 t = 0 ∧ A 5 t = 0)) (A 6 0))) := by
  obtain ⟨h0, h1, h2⟩ := hh
  have h7 := hwf.1.1
  unfold f_X4_neverMarked
  refine mt_lz2 (P := fun r => r = some (nI (sp_mk (fun t => decide (A 4 t = 0 ∧ A 5 t = 0)) (A 6 0)))) (fun i x y => x = nI (sp_mk (fun t => decide (A 4 t = 0 ∧ A 5 t = 0)) i) ∧ y = nI i) (A 6 0) (by omega) ?_ ?_ ⟨rfl, rfl⟩
  · rintro i hi x y ⟨rfl, rfl⟩ k
    left
    obtain ⟨c0, c1⟩ := h1 i (by omega)
    obtain ⟨b0, b1, -⟩ := hwf.2.2.2.1 i (by omega)
    have hin : vp_in (nI i) 14 := vp_in_nI (by omega) (by omega)
    have hcl : (nI i).toNatClampNeg = i := nI_clamp (by omega)
    have hin7 : vp_in (nI (7 + i)) 14 := vp_in_nI (by omega) (by omega)
    have hcl7 : (nI (7 + i)).toNatClampNeg = 7 + i := nI_clamp (by omega)
    refine ⟨_, _, ⟨rfl, rfl⟩, ?_⟩
    rw [h2.1.1, if_neg (nI_ge hi (by omega))]
    simp only [mt_ltE, mi_7, nI_add, mt_ci_t hin, mt_ci_t hin7, hcl, hcl7, c0, c1, nx_shl (show i < 31 by omega), nx_or, nI_1, sp_mk, decide_eq_true_eq]
    by_cases z : A 4 i = 0
    · rw [if_pos (show nI (A 4 i) = 0 by rw [z]; rfl)]
      by_cases z2 : A 5 i = 0
      · rw [if_pos (show nI (A 5 i) = 0 by rw [z2]; rfl), if_pos ⟨z, z2⟩]
      · rw [if_neg (nI_ne0 (by omega) (by omega)), if_neg (fun w => z2 w.2), Nat.or_zero]
    · rw [if_neg (nI_ne0 (by omega) (by omega)), if_neg (fun w => z w.1), Nat.or_zero]
  · rintro x y ⟨rfl, rfl⟩ k
    rw [h2.1.1, if_pos (nI_le (Nat.le_refl _) (by omega))]
theorem sp_wb_3 (A : hs_A) {n : Nat} (h7 : A 6 7 < 2 ^ n) (h8 : A 6 8 < 2 ^ n) : (A 6 7 ||| A 6 8) &&& sp_mk (sp_cl A 2) n ||| sp_an (sp_mk (sp_lw A 0) n) (sp_mk (sp_cl A 2) n) = sp_mk (sp_wb A 3) n := by
  refine sp_mk_eq (sp_or_lt (sp_and_lt (sp_or_lt h7 h8)) (sp_an_lt (sp_mk_lt _ _))) (fun t ht => ?_)
  rw [Nat.testBit_or, Nat.testBit_and, Nat.testBit_or, sp_an_t, sp_mk_t, sp_mk_t]
  unfold sp_wb
  rw [if_neg (by decide), if_neg (by decide), if_pos rfl]
  cases sp_cl A 2 t <;> simp [ht]
theorem hc_after (hh : hv h M A) (hwf : hs_wf A) {r : Nat} (hr : r ≤ 3) : f_X4_wantedAfter h (nI r) M = some (nI (sp_mk (sp_wb A r) (A 6 0))) := by
  have h0 := hh.1
  unfold f_X4_wantedAfter
  simp only [mc_0, mc_1, mi_2, hc_close hh hwf (a := 2) (by decide), mt_b1E, mt_ltE, h0.2.2.2.1, h0.2.2.2.2, nx_or, nx_and, hc_later hh hwf 0, nx_andn]
  rcases (show r = 0 ∨ r = 1 ∨ r = 2 ∨ r = 3 by omega) with rfl | rfl | rfl | rfl
  · have e : sp_wb A 0 = sp_lw A 0 := by funext t; rfl
    rw [e]
    rfl
  · rw [if_pos (show nI 1 = 1 from rfl)]
    have e : sp_mk (sp_wb A 1) (A 6 0) = A 6 7 ||| A 6 8 := (sp_mk_eq (sp_or_lt hwf.2.2.1.1 hwf.2.2.1.2) (fun t _ => Nat.testBit_or _ _ _)).symm
    rw [e]
  · rw [if_neg (show ¬ nI 2 = 1 by decide), if_pos rfl]
    have e : sp_mk (sp_wb A 2) (A 6 0) = A 6 7 &&& A 6 8 := (sp_mk_eq (sp_and_lt hwf.2.2.1.1) (fun t _ => Nat.testBit_and _ _ _)).symm
    rw [e]
  · rw [if_neg (show ¬ nI 3 = 1 by decide), if_neg (show ¬ nI 3 = nI 2 by decide), if_pos (show nI 3 = 3 from rfl), sp_wb_3 A hwf.2.2.1.1 hwf.2.2.1.2]
theorem hc_lost (hh : hv h M A) (hwf : hs_wf A) {r : Nat} (hr : r ≤ 3) : f_X4_lostBy h (nI r) M = some (nI (sp_mk (fun t => sp_lw A 0 t && !sp_wb A r t) (A 6 0))) := by
  simp only [f_X4_lostBy, hc_later hh hwf 0, hc_after hh hwf hr, mt_b1E, nx_andn, sp_mk_an]
theorem hc_brought (hh : hv h M A) (hwf : hs_wf A) {r : Nat} (hr : r ≤ 3) : f_X4_broughtBackBy h (nI r) M = some (nI (sp_mk (fun t => sp_wb A r t && !sp_lw A 0 t) (A 6 0))) := by
  simp only [f_X4_broughtBackBy, hc_later hh hwf 0, hc_after hh hwf hr, mt_b1E, nx_andn, sp_mk_an]
/-- how many things a rule tells wrongly -/
def sp_wr (A : hs_A) (r : Nat) : Nat := sp_pc (sp_mk (fun t => sp_lw A 0 t ^^ sp_wb A r t) (A 6 0))
theorem hc_harm (hh : hv h M A) (hwf : hs_wf A) {r : Nat} (hr : r ≤ 3) : f_X4_harmOfRule h (nI r) M = some (nI (sp_wr A r)) := by
  have h7 := hwf.1.1
  have l1 := sp_lt7 (sp_mk_lt (fun t => sp_lw A 0 t && !sp_wb A r t) (A 6 0)) h7
  have l2 := sp_lt7 (sp_mk_lt (fun t => sp_wb A r t && !sp_lw A 0 t) (A 6 0)) h7
  simp only [f_X4_harmOfRule, hc_lost hh hwf hr, hc_brought hh hwf hr, mt_b1E, kd_pc _ l1, kd_pc _ l2, nI_add]
  unfold sp_wr
  rw [sp_pc_mk _ (by omega), sp_pc_mk _ (by omega), sp_pc_mk _ (by omega), ← sp_sm_add]
  congr 2
  refine sp_sm_congr (fun i _ => ?_)
  cases sp_lw A 0 i <;> cases sp_wb A r i <;> rfl
theorem sp_wr_le (A : hs_A) (r : Nat) : sp_wr A r ≤ 31 := sp_pc_le _
end HC

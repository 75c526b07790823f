/-! THE CLASS THINKS: a shelf at 137 that begins as the house's cupboard at 13 -/
def hs_z (A : hs_A) : hs_A := hs_up (hs_up (hs_up A 6 4 0) 6 5 0) 6 6 0
theorem hs_ok_z {A : hs_A} (h : hs_ok A) : hs_ok (hs_z A) := hs_ok_up6 (hs_ok_up6 (hs_ok_up6 h (by decide)) (by decide)) (by decide)
theorem hs_z_n (A : hs_A) {k : Nat} (h4 : k ≠ 4) (h5 : k ≠ 5) (h6 : k ≠ 6) : hs_z A 6 k = A 6 k := by simp [hs_z, hs_up, h4, h5, h6]
theorem hs_z_r (A : hs_A) {j : Nat} (h : j ≠ 6) : hs_z A j = A j := by
  unfold hs_z; rw [hs_up_r _ h, hs_up_r _ h, hs_up_r _ h]
theorem hs_z_t (A : hs_A) : hs_z A 6 4 = 0 ∧ hs_z A 6 5 = 0 ∧ hs_z A 6 6 = 0 := by simp [hs_z, hs_up]
/-- one thing alone -/
def hs_one (A : hs_A) (t : Nat) : Nat → hs_A
  | 0 => A
  | d + 1 => hs_dT (hs_one A t d) t
theorem hs_one_6 (A : hs_A) (t d : Nat) {k : Nat} (h5 : k ≠ 5) (h6 : k ≠ 6) : hs_one A t d 6 k = A 6 k := by
  induction d with
  | zero => rfl
  | succ d ih => simp only [hs_one]; rw [hs_dT_6 _ _ h5 h6, ih]
theorem hs_one_r (A : hs_A) (t d : Nat) {j : Nat} (h3 : j ≠ 3) (h6 : j ≠ 6) : hs_one A t d j = A j := by
  induction d with
  | zero => rfl
  | succ d ih => simp only [hs_one, hs_dT]; rw [hs_up_r _ h6, hs_up_r _ h6, hs_up_r _ h3, ih]
theorem hs_one_3 (A : hs_A) (t d : Nat) : hs_one A t d 3 t = sp_sN (A 0 t) (A 1 t) (A 2 t) d (A 3 t) := by
  induction d with
  | zero => rfl
  | succ d ih =>
    simp only [hs_one, hs_dT, sp_sN]
    rw [hs_up_r _ (by decide), hs_up_r _ (by decide), hs_up_s, ih, hs_one_r _ _ _ (by decide) (by decide), hs_one_r _ _ _ (by decide) (by decide), hs_one_r _ _ _ (by decide) (by decide)]
theorem hs_one_5 (A : hs_A) (t d : Nat) : hs_one A t d 6 5 = A 6 5 + sp_lN (A 0 t) (A 1 t) (A 2 t) d (A 3 t) := by
  induction d with
  | zero => rfl
  | succ d ih =>
    simp only [hs_one, hs_dT, sp_lN]
    rw [hs_up_n _ (by decide), hs_up_s, ih, hs_one_3, hs_one_r _ _ _ (by decide) (by decide)]
    omega
theorem hs_one_66 (A : hs_A) (t d : Nat) : hs_one A t d 6 6 = A 6 6 + sp_qN (A 0 t) (A 1 t) (A 2 t) d (A 3 t) := by
  induction d with
  | zero => rfl
  | succ d ih =>
    simp only [hs_one, hs_dT, sp_qN]
    rw [hs_up_s, ih, hs_one_3, hs_one_r _ _ _ (by decide) (by decide), hs_one_r _ _ _ (by decide) (by decide), hs_one_r _ _ _ (by decide) (by decide)]
    omega
theorem hs_ok_one {A : hs_A} (h : hs_ok A) {t : Nat} (ht : t < A 6 0) (d : Nat) : hs_ok (hs_one A t d) := by
  induction d with
  | zero => exact h
  | succ d ih => exact hs_ok_dT ih (by rw [hs_one_6 _ _ _ (by decide) (by decide)]; exact ht)
/-- what thinking leaves alone -/
def xn (M M' : mt_M) : Prop := ∀ id, (id < 134 ∨ 145 ≤ id) → M' id = M id
theorem xn.rfl' (M : mt_M) : xn M M := fun _ _ => rfl
theorem xn.trans {M M1 M2 : mt_M} (a : xn M M1) (b : xn M1 M2) : xn M M2 := fun id h => (b id h).trans (a id h)
theorem xn.cv {M M' : mt_M} {A : hs_A} (h : xn M M') (hv : cv 13 M A) : cv 13 M' A := cv_frame hv (fun id h1 h2 => h id (by omega))
section XN
variable {M : mt_M} {A : hs_A} {t : Nat}
theorem xn_begin (hv : cv 13 M A) (hok : hs_ok A) : ∃ M', f_X8_begin M = some M' ∧ cv 137 M' (hs_z A) ∧ xn M M' := by
  obtain ⟨M1, h1, v1⟩ := xc_become (c := 137) hv (Or.inr (by decide)) hok.1
  obtain ⟨M2, h2, v2⟩ := xc_forget v1
  have e : f_X8_begin M = some M2 := by simp only [f_X8_begin, h1, mt_b1_some, h2]
  exact ⟨M2, e, v2, fr_X8_begin M e⟩
theorem xn_days (hv : cv 137 M A) (hok : hs_ok A) {n : Nat} (hn : n ≤ 1000) : ∃ M', f_X8_liveDays (nI n) M = some M' ∧ cv 137 M' (hs_days A n) ∧ xn M M' := by
  have key : ∃ M', f_X8_liveDays (nI n) M = some M' ∧ cv 137 M' (hs_days A n) := by
    unfold f_X8_liveDays
    refine mt_lz2 (P := fun r => ∃ M', r = some M' ∧ cv 137 M' (hs_days A n)) (fun i x m => x = nI i ∧ cv 137 m (hs_days A i)) n (by omega) ?_ ?_ ⟨rfl, hv⟩
    · rintro i hi x m ⟨rfl, hm⟩ k
      left
      obtain ⟨M', h1, h2⟩ := xc_ld hm (hs_ok_days hok i)
      refine ⟨_, _, ⟨rfl, h2⟩, ?_⟩
      rw [if_neg (nI_ge hi (by omega)), h1]
      simp only [mt_b2_some, mt_lt, nI_1]
    · rintro x m ⟨rfl, hm⟩ k
      rw [if_pos (nI_le (Nat.le_refl _) (by omega))]
      exact ⟨m, rfl, hm⟩
  obtain ⟨M', h1, h2⟩ := key
  exact ⟨M', h1, h2, fr_X8_liveDays _ M h1⟩
theorem xn_of (hv : cv 13 M A) (hok : hs_ok A) (ht : t < A 6 0) {s n : Nat} (hs : s < 2 ^ 31) (hn : n ≤ 1000) : ∃ M', f_X8_liveDaysOf (nI t) (nI s) (nI n) M = some M' ∧ M' 137 10 = nI (sp_lN (A 0 t) (A 1 t) (A 2 t) n (min 99 s)) ∧ M' 137 11 = nI (sp_qN (A 0 t) (A 1 t) (A 2 t) n (min 99 s)) ∧ f_X0_stockOf 137 (nI t) M' = some (nI (sp_sN (A 0 t) (A 1 t) (A 2 t) n (min 99 s))) ∧ xn M M' := by
  obtain ⟨M1, b1, bv, bx⟩ := xn_begin hv hok
  have ht1 : t < hs_z A 6 0 := by rw [hs_z_n _ (by decide) (by decide) (by decide)]; exact ht
  have pv := xc_put bv (hs_ok_z hok).1 ht1 hs
  have v2 := cv_w6 bv t (min 99 s)
  obtain ⟨B, eB⟩ : ∃ B, B = hs_up (hs_z A) 3 t (min 99 s) := ⟨_, rfl⟩
  rw [← eB] at v2
  have okB : hs_ok B := by rw [eB]; exact hs_ok_up3 (hs_ok_z hok) t (Nat.min_le_left _ _)
  have B0 : B 6 0 = A 6 0 := by rw [eB, hs_up_r _ (by decide), hs_z_n _ (by decide) (by decide) (by decide)]
  have Br : ∀ j, j ≠ 3 → j ≠ 6 → B j = A j := fun j h3 h6 => by rw [eB, hs_up_r _ h3, hs_z_r _ h6]
  have B3 : B 3 t = min 99 s := by rw [eB, hs_up_s]
  have B5 : B 6 5 = 0 := by rw [eB, hs_up_r _ (by decide)]; exact (hs_z_t A).2.1
  have B6 : B 6 6 = 0 := by rw [eB, hs_up_r _ (by decide)]; exact (hs_z_t A).2.2
  have tB : t < B 6 0 := by rw [B0]; exact ht
  have key : ∃ M', f_X8_liveDaysOf (nI t) (nI s) (nI n) M = some M' ∧ cv 137 M' (hs_one B t n) := by
    simp only [f_X8_liveDaysOf, b1, mt_b1_some, pv]
    refine mt_lz2 (P := fun r => ∃ M', r = some M' ∧ cv 137 M' (hs_one B t n)) (fun i x m => x = nI i ∧ cv 137 m (hs_one B t i)) n (by omega) ?_ ?_ ⟨rfl, v2⟩
    · rintro i hi x m ⟨rfl, hm⟩ k
      left
      obtain ⟨M', h1, h2⟩ := xc_ldo hm (hs_ok_one okB tB i) (t := t) (by rw [hs_one_6 _ _ _ (by decide) (by decide)]; exact tB)
      refine ⟨_, _, ⟨rfl, h2⟩, ?_⟩
      rw [if_neg (nI_ge hi (by omega)), h1]
      simp only [mt_b2_some, mt_lt, nI_1]
    · rintro x m ⟨rfl, hm⟩ k
      rw [if_pos (nI_le (Nat.le_refl _) (by omega))]
      exact ⟨m, rfl, hm⟩
  obtain ⟨M', h1, h2⟩ := key
  have r := xc_row h2 (hs_ok_one okB tB n) (t := t) (by rw [hs_one_6 _ _ _ (by decide) (by decide)]; exact tB)
  refine ⟨M', h1, ?_, ?_, ?_, fr_X8_liveDaysOf _ _ _ M h1⟩
  · rw [h2.1.2.2.1, hs_one_5, B5, B3, Br 0 (by decide) (by decide), Br 1 (by decide) (by decide), Br 2 (by decide) (by decide), Nat.zero_add]
  · rw [h2.1.2.2.2, hs_one_66, B6, B3, Br 0 (by decide) (by decide), Br 1 (by decide) (by decide), Br 2 (by decide) (by decide), Nat.zero_add]
  · rw [r.2.2.1, hs_one_3, B3, Br 0 (by decide) (by decide), Br 1 (by decide) (by decide), Br 2 (by decide) (by decide)]
theorem xn_stockBehind (hv : cv 13 M A) (hok : hs_ok A) (ht : t < A 6 0) {n : Nat} (hn : n ≤ 1000) : ∃ M', f_X8_stockBehind (nI t) (nI n) M = some (nI (sp_sN (A 0 t) (A 1 t) (A 2 t) n (A 3 t)), M') ∧ xn M M' := by
  have bs := (hok.2 t ht).2.2.2
  obtain ⟨M', h1, -, -, h4, h5⟩ := xn_of hv hok ht (s := A 3 t) (n := n) (by omega) hn
  rw [Nat.min_eq_right bs] at h4
  refine ⟨M', ?_, h5⟩
  simp only [f_X8_stockBehind, (xc_row hv hok ht).2.2.1, mt_b1_some, h1, h4]
theorem xn_with (hv : cv 13 M A) (hok : hs_ok A) (ht : t < A 6 0) (k : Nat) : f_X8_stockWith (nI t) (nI k) M = some (nI (A 3 t + k * sp_pk (A 0 t))) := by
  obtain ⟨-, -, r3, -, r5, -⟩ := xc_row hv hok ht
  simp only [f_X8_stockWith, r3, r5, mt_b1_some, pk_mul, nI_add]
theorem xn_lacked (hv : cv 13 M A) (hok : hs_ok A) {n : Nat} (hn : n ≤ 1000) : ∃ M', f_X8_lackedIn (nI n) M = some (nI (sp_sm (A 6 0) (fun t => sp_lN (A 0 t) (A 1 t) (A 2 t) n (A 3 t))), M') ∧ xn M M' := by
  obtain ⟨M1, b1, bv, bx⟩ := xn_begin hv hok
  obtain ⟨M2, d1, dv, dx⟩ := xn_days bv (hs_ok_z hok) hn
  refine ⟨M2, ?_, bx.trans dx⟩
  simp only [f_X8_lackedIn, b1, mt_b1_some, d1, dv.1.2.2.1]
  rw [hs_days_65, (hs_z_t A).2.1, hs_z_n _ (by decide) (by decide) (by decide), hs_z_r _ (by decide), hs_z_r _ (by decide), hs_z_r _ (by decide), hs_z_r _ (by decide), Nat.zero_add]
theorem xn_spoilt (hv : cv 13 M A) (hok : hs_ok A) {n : Nat} (hn : n ≤ 1000) : ∃ M', f_X8_spoiltIn (nI n) M = some (nI (sp_sm (A 6 0) (fun t => sp_qN (A 0 t) (A 1 t) (A 2 t) n (A 3 t))), M') ∧ xn M M' := by
  obtain ⟨M1, b1, bv, bx⟩ := xn_begin hv hok
  obtain ⟨M2, d1, dv, dx⟩ := xn_days bv (hs_ok_z hok) hn
  refine ⟨M2, ?_, bx.trans dx⟩
  simp only [f_X8_spoiltIn, b1, mt_b1_some, d1, dv.1.2.2.2]
  rw [hs_days_66, (hs_z_t A).2.2, hs_z_n _ (by decide) (by decide) (by decide), hs_z_r _ (by decide), hs_z_r _ (by decide), hs_z_r _ (by decide), hs_z_r _ (by decide), Nat.zero_add]
theorem xn_first (hv : cv 13 M A) (hok : hs_ok A) (ht : t < A 6 0) : ∃ M', f_X8_firstDayWithout (nI t) M = some (sp_ov (sp_ro A t), M') ∧ xn M M' := by
  obtain ⟨M1, b1, bv, bx⟩ := xn_begin hv hok
  have ht1 : t < hs_z A 6 0 := by rw [hs_z_n _ (by decide) (by decide) (by decide)]; exact ht
  have Br : ∀ j, j ≠ 6 → hs_z A j = A j := fun j h6 => hs_z_r _ h6
  have bu := (hok.2 t ht).2.2.1
  have key : ∃ M', f_X8_firstDayWithout (nI t) M = some (sp_ov (sp_ro A t), M') := by
    simp only [f_X8_firstDayWithout, b1, mt_b1_some]
    refine mt_lz2 (P := fun r => ∃ M', r = some (sp_ov (sp_ro A t), M')) (fun i x m => x = nI (i + 1) ∧ cv 137 m (hs_one (hs_z A) t i) ∧ ∀ j, j < i → decide (sp_sN (A 0 t) (A 1 t) (A 2 t) j (A 3 t) < A 2 t) = false) 60 (by decide) ?_ ?_ ⟨rfl, bv, fun j hj => absurd hj (by omega)⟩
    · rintro i hi x m ⟨rfl, hm, hno⟩ k
      obtain ⟨M', h1, h2⟩ := xc_ldo hm (hs_ok_one (hs_ok_z hok) ht1 i) (t := t) (by rw [hs_one_6 _ _ _ (by decide) (by decide)]; exact ht1)
      rw [hs_one_3, hs_one_r _ _ _ (by decide) (by decide), Br 0 (by decide), Br 1 (by decide), Br 2 (by decide), Br 3 (by decide)] at h1
      rw [mi_60, if_neg (nI_nlt (show i + 1 ≤ 60 by omega) (by omega)), h1]
      simp only [mt_b2_some, mt_lt]
      by_cases hl : sp_sN (A 0 t) (A 1 t) (A 2 t) i (A 3 t) < A 2 t
      · right
        rw [if_neg (nI_nle (by omega) (by omega))]
        refine ⟨M', ?_⟩
        have e : sp_ro A t = some (i + 1) := by
          unfold sp_ro
          rw [sp_find_some (by rw [sp_e60]; exact hi) (by simpa using hl) hno]
          rfl
        rw [e]; rfl
      · left
        refine ⟨_, _, ⟨rfl, h2, ?_⟩, ?_⟩
        · intro j hj
          by_cases q : j = i
          · subst q; simpa using hl
          · exact hno j (by omega)
        · rw [show A 2 t - sp_sN (A 0 t) (A 1 t) (A 2 t) i (A 3 t) = 0 by omega, if_pos (show nI 0 ≤ 0 by decide), nI_1]
    · rintro x m ⟨rfl, hm, hno⟩ k
      rw [mi_60, if_pos (nI_lt (by decide) (by decide))]
      refine ⟨m, ?_⟩
      have e : sp_ro A t = none := by
        unfold sp_ro
        rw [sp_find_none (by rw [sp_e60]; exact hno)]
        rfl
      rw [e]; rfl
  obtain ⟨M', h1⟩ := key
  exact ⟨M', h1, fr_X8_firstDayWithout _ M h1⟩
theorem xn_firstOut (hv : cv 13 M A) (hok : hs_ok A) : ∃ M', f_X8_firstThingOut M = some (sp_ov (sp_fo A (A 6 0)).1, M') ∧ xn M M' := by
  have hn := hok.1
  unfold f_X8_firstThingOut
  refine mt_lz4 (P := fun r => ∃ M', r = some (sp_ov (sp_fo A (A 6 0)).1, M') ∧ xn M M') (fun i x y z m => x = sp_ov (sp_fo A i).1 ∧ y = nI (sp_fo A i).2 ∧ z = nI i ∧ xn M m) (A 6 0) (by omega) ?_ ?_ ⟨rfl, rfl, rfl, xn.rfl' M⟩
  · rintro i hi x y z m ⟨rfl, rfl, rfl, hm⟩ k
    left
    have hvm := hm.cv hv
    obtain ⟨M', h1, h2⟩ := xn_first hvm hok hi
    have h8 := hvm.1.1
    rw [h8, if_neg (nI_ge hi (by omega)), h1]
    simp only [mt_b2_some, mt_lt, nI_1]
    cases hr : sp_ro A i with
    | none =>
      refine ⟨sp_ov (sp_fo A i).1, nI (sp_fo A i).2, nI (i + 1), M', ⟨?_, ?_, rfl, hm.trans h2⟩, ?_⟩
      · simp only [sp_fo, hr]
      · simp only [sp_fo, hr]
      · simp only [sp_ov, if_true]
    | some d =>
      have hd := sp_ro_lt hr
      have hf := sp_fo_le A i
      have hne : ¬ sp_ov (some d) = -9 := fun q => by
        have := (sp_ov_neg (o := some d) (fun i h => by cases h; omega)).2.2.mp q
        cases this
      rw [if_neg hne]
      by_cases hl : d < (sp_fo A i).2
      · refine ⟨nI i, nI d, nI (i + 1), M', ⟨?_, ?_, rfl, hm.trans h2⟩, ?_⟩
        · simp only [sp_fo, hr, if_pos hl, sp_ov]
        · simp only [sp_fo, hr, if_pos hl]
        · rw [if_neg (show ¬ nI (sp_fo A i).2 ≤ sp_ov (some d) from nI_ge hl (by omega))]
          rfl
      · refine ⟨sp_ov (sp_fo A i).1, nI (sp_fo A i).2, nI (i + 1), M', ⟨?_, ?_, rfl, hm.trans h2⟩, ?_⟩
        · simp only [sp_fo, hr, if_neg hl]
        · simp only [sp_fo, hr, if_neg hl]
        · rw [if_pos (show nI (sp_fo A i).2 ≤ sp_ov (some d) from nI_le (by omega) (by omega))]
  · rintro x y z m ⟨rfl, rfl, rfl, hm⟩ k
    have h8 := (hm.cv hv).1.1
    rw [h8, if_pos (nI_le (Nat.le_refl _) (by omega))]
    exact ⟨m, rfl, hm⟩
theorem xn_packs (hv : cv 13 M A) (hok : hs_ok A) (ht : t < A 6 0) {n : Nat} (hn : n ≤ 1000) : ∃ M', f_X8_packsFor (nI t) (nI n) M = some (nI (sp_pks A t n), M') ∧ xn M M' := by
  have bk := (hok.2 t ht).1
  have bs := (hok.2 t ht).2.2.2
  have bu := (hok.2 t ht).2.2.1
  have bpk := sp_pk_le (A 0 t) (by omega)
  unfold f_X8_packsFor
  refine mt_lz2 (P := fun r => ∃ M', r = some (nI (sp_pks A t n), M') ∧ xn M M') (fun i x m => x = nI i ∧ xn M m ∧ ∀ j, j < i → (sp_lN (A 0 t) (A 1 t) (A 2 t) n (sp_w A t j) == 0) = false) 21 (by decide) ?_ ?_ ⟨rfl, xn.rfl' M, fun j hj => absurd hj (by omega)⟩
  · rintro i hi x m ⟨rfl, hm, hno⟩ k
    have hvm := hm.cv hv
    have hmul : i * sp_pk (A 0 t) ≤ 21 * 6 := Nat.mul_le_mul (by omega) bpk.1
    obtain ⟨M', h1, h2, h3, h4, h5⟩ := xn_of hvm hok ht (s := A 3 t + i * sp_pk (A 0 t)) (n := n) (by omega) hn
    rw [mi_20, if_neg (nI_nlt (show i ≤ 20 by omega) (by omega)), xn_with hvm hok ht]
    simp only [mt_b1_some, h1, h2, mt_lt, nI_1]
    have hb := sp_lN_le (A 0 t) (A 1 t) (A 2 t) n (min 99 (A 3 t + i * sp_pk (A 0 t)))
    have hb2 : A 2 t * n ≤ 9 * 1000 := Nat.mul_le_mul bu hn
    by_cases hl : sp_lN (A 0 t) (A 1 t) (A 2 t) n (min 99 (A 3 t + i * sp_pk (A 0 t))) = 0
    · right
      rw [hl, if_pos (show nI 0 = 0 from rfl)]
      refine ⟨M', ?_, hm.trans h5⟩
      have e : sp_pks A t n = i := by
        unfold sp_pks sp_pf
        rw [sp_find_some (by rw [sp_e21]; exact hi) (by simpa [sp_w] using hl) hno]
      rw [e]
    · left
      rw [if_neg (nI_ne0 (by omega) (by omega))]
      refine ⟨_, _, ⟨rfl, hm.trans h5, ?_⟩, rfl⟩
      intro j hj
      by_cases q : j = i
      · subst q; simpa [sp_w] using hl
      · exact hno j (by omega)
  · rintro x m ⟨rfl, hm, hno⟩ k
    rw [mi_20, if_pos (nI_lt (by decide) (by decide))]
    refine ⟨m, ?_, hm⟩
    have e : sp_pks A t n = 99 := by
      unfold sp_pks sp_pf
      rw [sp_find_none (by rw [sp_e21]; exact hno)]
    rw [e]; rfl
end XN

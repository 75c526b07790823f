/-! MORE THAT THE CLASS THINKS -/
theorem mt_s31 : ∀ n, n < 32 → ((nI n &&& 31).toBitVec.smod 32).toNat = n := by decide +kernel
theorem nx_and (a b : Nat) : nI a &&& nI b = nI (a &&& b) := by
  apply Int32.toBitVec_inj.1
  show BitVec.ofNat 32 a &&& BitVec.ofNat 32 b = BitVec.ofNat 32 (a &&& b)
  apply BitVec.eq_of_getLsbD_eq
  intro i hi
  simp [BitVec.getLsbD_ofNat, hi, Nat.testBit_and]
theorem mt_bitN {w t : Nat} (hw : w < 2 ^ 31) (ht : t < 31) : ((nI w >>> (nI t &&& 31)) &&& (1 : Int32)) = if w.testBit t then 1 else 0 := by
  rw [pk_shrN hw (nI t &&& 31) t (mt_s31 t (by omega)), mi_1, nx_and, Nat.and_one_is_mod]
  rw [Nat.testBit_eq_decide_div_mod_eq]
  have h2 : w / 2 ^ t % 2 = 0 ∨ w / 2 ^ t % 2 = 1 := by omega
  rcases h2 with h | h
  · rw [h]; rfl
  · rw [h]; rfl
theorem mt_bit1 {w t : Nat} (hw : w < 2 ^ 31) (ht : t < 31) : (((nI w >>> (nI t &&& 31)) &&& (1 : Int32)) = 1) = (w.testBit t = true) := by
  rw [mt_bitN hw ht]
  cases w.testBit t
  · simp
  · simp
/-- tallies shifted -/
def hs_sh (B : hs_A) (p l q : Nat) : hs_A := fun j x => if j = 6 then (if x = 4 then B 6 4 + p else if x = 5 then B 6 5 + l else if x = 6 then B 6 6 + q else B 6 x) else B j x
theorem hs_sh_z (A : hs_A) : hs_sh (hs_z A) (A 6 4) (A 6 5) (A 6 6) = A := by
  funext j x
  simp only [hs_sh]
  by_cases h : j = 6
  · subst h
    simp only [if_true]
    by_cases h4 : x = 4
    · subst h4; rw [if_pos rfl, (hs_z_t A).1]; omega
    · rw [if_neg h4]
      by_cases h5 : x = 5
      · subst h5; rw [if_pos rfl, (hs_z_t A).2.1]; omega
      · rw [if_neg h5]
        by_cases h6 : x = 6
        · subst h6; rw [if_pos rfl, (hs_z_t A).2.2]; omega
        · rw [if_neg h6, hs_z_n _ h4 h5 h6]
  · rw [if_neg h, hs_z_r _ h]
theorem hs_sh_6 (B : hs_A) (p l q : Nat) : hs_sh B p l q 6 4 = B 6 4 + p ∧ hs_sh B p l q 6 5 = B 6 5 + l ∧ hs_sh B p l q 6 6 = B 6 6 + q := by simp [hs_sh]
theorem hs_sh_n (B : hs_A) (p l q : Nat) {k : Nat} (h4 : k ≠ 4) (h5 : k ≠ 5) (h6 : k ≠ 6) : hs_sh B p l q 6 k = B 6 k := by simp [hs_sh, h4, h5, h6]
theorem hs_sh_r (B : hs_A) (p l q : Nat) {j : Nat} (h : j ≠ 6) : hs_sh B p l q j = B j := by funext x; simp [hs_sh, h]
theorem hs_sh_dT (B : hs_A) (p l q t : Nat) : hs_dT (hs_sh B p l q) t = hs_sh (hs_dT B t) p l q := by
  funext j x
  simp only [hs_dT, hs_up, hs_sh]
  by_cases h : j = 6
  · subst h
    by_cases h4 : x = 4
    · simp [h4]
    · by_cases h5 : x = 5
      · simp [h5]; omega
      · by_cases h6 : x = 6
        · simp [h6]; omega
        · simp [h4, h5, h6]
  · simp [h]
theorem hs_sh_dP (B : hs_A) (p l q : Nat) : ∀ i, hs_dP (hs_sh B p l q) i = hs_sh (hs_dP B i) p l q
  | 0 => rfl
  | i + 1 => by simp only [hs_dP]; rw [hs_sh_dP B p l q i, hs_sh_dT]
theorem hs_sh_up2 (B : hs_A) (p l q v : Nat) : hs_up (hs_sh B p l q) 6 2 v = hs_sh (hs_up B 6 2 v) p l q := by
  funext j x
  simp only [hs_up, hs_sh]
  by_cases h : j = 6
  · subst h
    by_cases h2 : x = 2
    · simp [h2]
    · by_cases h4 : x = 4
      · simp [h4]
      · by_cases h5 : x = 5
        · simp [h5]
        · by_cases h6 : x = 6
          · simp [h6]
          · simp [h2, h4, h5, h6]
  · simp [h]
theorem hs_sh_day (B : hs_A) (p l q : Nat) : hs_day (hs_sh B p l q) = hs_sh (hs_day B) p l q := by
  unfold hs_day
  rw [hs_sh_n _ _ _ _ (by decide) (by decide) (by decide), hs_sh_n _ _ _ _ (by decide) (by decide) (by decide), hs_sh_dP, hs_sh_up2]
theorem hs_sh_days (B : hs_A) (p l q : Nat) : ∀ d, hs_days (hs_sh B p l q) d = hs_sh (hs_days B d) p l q
  | 0 => rfl
  | d + 1 => by simp only [hs_days]; rw [hs_sh_days B p l q d, hs_sh_day]
theorem hs_sh_buy (B : hs_A) (p l q t k : Nat) : hs_buy (hs_sh B p l q) t k = hs_sh (hs_buy B t k) p l q := by
  funext j x
  simp only [hs_buy, hs_up, hs_sh]
  by_cases h : j = 6
  · subst h
    by_cases h4 : x = 4
    · simp [h4]; omega
    · simp [h4]
  · simp [h]
/-- how many lack on the day to come -/
def sp_ct (A : hs_A) : Nat := sp_sm (A 6 0) (fun t => if A 3 t < A 2 t then 1 else 0)
theorem sp_ct_z (A : hs_A) (d : Nat) : sp_ct (hs_days (hs_z A) d) = sp_ct (hs_days A d) := by
  have h := hs_sh_days (hs_z A) (A 6 4) (A 6 5) (A 6 6) d
  rw [hs_sh_z] at h
  rw [h]
  unfold sp_ct
  rw [hs_sh_n _ _ _ _ (by decide) (by decide) (by decide), hs_sh_r _ _ _ _ (by decide), hs_sh_r _ _ _ _ (by decide)]
theorem sp_ct_le (A : hs_A) : sp_ct A ≤ A 6 0 := by
  have h := sp_sm_le (n := A 6 0) (b := 1) (f := fun t => if A 3 t < A 2 t then 1 else 0) (fun i _ => by split <;> omega)
  unfold sp_ct
  omega
noncomputable def sp_la (A : hs_A) (k : Nat) : Option Nat := sp_suc (sp_find (fun d => decide (k ≤ sp_ct (hs_days A d))) sp_n60)
/-- orders -/
noncomputable def sp_ls (A : hs_A) (s : Nat) : Nat := sp_sm (A 6 0) (fun t => sp_lN (A 0 t) (A 1 t) (A 2 t) 7 (if s.testBit t then sp_w A t 1 else A 3 t))
def sp_ps (A : hs_A) (s : Nat) : Nat := sp_sm (A 6 0) (fun t => if s.testBit t then sp_pr (A 0 t) (A 1 t) else 0)
noncomputable def sp_bs (A : hs_A) (v : Nat) : Nat → Nat
  | 0 => 0
  | i + 1 => if sp_ps A (i + 1) ≤ v ∧ sp_ls A (i + 1) < sp_ls A (sp_bs A v i) then i + 1 else sp_bs A v i
theorem sp_bs_le (A : hs_A) (v i : Nat) : sp_bs A v i ≤ i := by
  induction i with
  | zero => exact Nat.le_refl _
  | succ i ih =>
    simp only [sp_bs]
    split
    · exact Nat.le_refl _
    · omega
theorem sp_ls_le {A : hs_A} (hok : hs_ok A) (s : Nat) : sp_ls A s ≤ 441 := by
  have h := sp_sm_le (n := A 6 0) (b := 63) (f := fun t => sp_lN (A 0 t) (A 1 t) (A 2 t) 7 (if s.testBit t then sp_w A t 1 else A 3 t)) (fun t ht => by
    have h1 := sp_lN_le (A 0 t) (A 1 t) (A 2 t) 7 (if s.testBit t then sp_w A t 1 else A 3 t)
    have h2 := (hok.2 t ht).2.2.1
    show sp_lN (A 0 t) (A 1 t) (A 2 t) 7 (if s.testBit t then sp_w A t 1 else A 3 t) ≤ 63
    omega)
  have h2 := hok.1
  unfold sp_ls
  omega
theorem sp_ps_le {A : hs_A} (hok : hs_ok A) (s : Nat) : sp_ps A s ≤ 385 := by
  have h := sp_sm_le (n := A 6 0) (b := 55) (f := fun t => if s.testBit t then sp_pr (A 0 t) (A 1 t) else 0) (fun t ht => by
    have h1 := (sp_pr_le (A 0 t) (by have := (hok.2 t ht).1; omega) (A 1 t) (by have := (hok.2 t ht).2.1; omega)).1
    show (if s.testBit t then sp_pr (A 0 t) (A 1 t) else 0) ≤ 55
    split <;> omega)
  have h2 := hok.1
  unfold sp_ps
  omega
/-- needs, no waste -/
noncomputable def sp_nd (A : hs_A) (t n : Nat) : Option Nat := sp_find (fun v => sp_lN (A 0 t) (A 1 t) (A 2 t) n v == 0) sp_n100
def sp_ws (A : hs_A) (t n k : Nat) : Bool := sp_qN (A 0 t) (A 1 t) (A 2 t) n (sp_w A t k) == 0
noncomputable def sp_nw (A : hs_A) (t n : Nat) : Option Nat := if sp_ws A t n 0 = true then sp_last (sp_ws A t n) sp_n21 else none
section XN2
variable {M : mt_M} {A : hs_A} {t : Nat}
theorem xn_lasts (hv : cv 13 M A) (hok : hs_ok A) {k : Nat} (hk : k ≤ 1000) : ∃ M', f_X8_firstDayWithoutSome (nI k) M = some (sp_ov (sp_la A k), M') ∧ xn M M' := by
  obtain ⟨M1, b1, bv, bx⟩ := xn_begin hv hok
  have hn := hok.1
  have key : ∃ M', f_X8_firstDayWithoutSome (nI k) M = some (sp_ov (sp_la A k), M') := by
    simp only [f_X8_firstDayWithoutSome, b1, mt_b1E]
    refine mt_lz2 (P := fun r => ∃ M', r = some (sp_ov (sp_la A k), M')) (fun i x m => x = nI (i + 1) ∧ cv 137 m (hs_days (hs_z A) i) ∧ ∀ j, j < i → decide (k ≤ sp_ct (hs_days A j)) = false) 60 (by decide) ?_ ?_ ⟨rfl, bv, fun j hj => absurd hj (by omega)⟩
    · rintro i hi x m ⟨rfl, hm, hno⟩ kk
      obtain ⟨D, eD⟩ : ∃ D, D = hs_days (hs_z A) i := ⟨_, rfl⟩
      rw [← eD] at hm
      have okD : hs_ok D := by rw [eD]; exact hs_ok_days (hs_ok_z hok) i
      have D0 : D 6 0 = A 6 0 := by rw [eD, hs_days_n _ _ (by decide) (by decide) (by decide), hs_z_n _ (by decide) (by decide) (by decide)]
      have cD : sp_ct D = sp_ct (hs_days A i) := by rw [eD, sp_ct_z]
      rw [mi_60, if_neg (nI_nlt (show i + 1 ≤ 60 by omega) (by omega))]
      refine mt_lz3 (P := fun o => (∃ b1 b2, (b1 = nI (i + 1 + 1) ∧ cv 137 b2 (hs_days (hs_z A) (i + 1)) ∧ ∀ j, j < i + 1 → decide (k ≤ sp_ct (hs_days A j)) = false) ∧ o = kk b1 b2) ∨ ∃ M', o = some (sp_ov (sp_la A k), M')) (fun j x y m => x = nI (sp_sm j (fun t => if D 3 t < D 2 t then 1 else 0)) ∧ y = nI j ∧ cv 137 m (hs_dP D j)) (D 6 0) (by omega) ?_ ?_ ⟨rfl, rfl, hm⟩
      · rintro j hj x y m ⟨rfl, rfl, hm⟩ k2
        left
        have okj := hs_ok_dP okD j (by omega)
        have ej : hs_dP D j 6 0 = D 6 0 := hs_dP_6 _ _ (by decide) (by decide)
        obtain ⟨M', h1, h2⟩ := xc_ldo hm okj (t := j) (by omega)
        have h8 := hm.1.1
        rw [ej] at h8
        rw [hs_dP_3, if_neg (Nat.lt_irrefl j), hs_dP_r _ _ (by decide) (by decide)] at h1
        have bu := (okD.2 j hj).2.2.1
        rw [h8, if_neg (nI_ge hj (by omega)), h1]
        simp only [mt_b2E, mt_ltE, nI_1]
        refine ⟨_, _, _, ⟨rfl, rfl, h2⟩, ?_⟩
        by_cases hl : D 3 j < D 2 j
        · rw [if_neg (nI_nle (by omega) (by omega))]
          simp only [sp_sm, if_pos hl, nI_1]
        · rw [show D 2 j - D 3 j = 0 by omega, if_pos (show nI 0 ≤ 0 by decide), mi_0, nI_add]
          simp only [sp_sm, if_neg hl]
      · rintro x y m ⟨rfl, rfl, hm⟩ k2
        have h8 := hm.1.1
        rw [hs_dP_6 _ _ (by decide) (by decide)] at h8
        rw [h8, if_pos (nI_le (Nat.le_refl _) (by omega))]
        have hc : sp_sm (D 6 0) (fun t => if D 3 t < D 2 t then 1 else 0) = sp_ct (hs_days A i) := cD
        have hcl := sp_ct_le (hs_days A i)
        rw [hs_days_n _ _ (by decide) (by decide) (by decide)] at hcl
        rw [hc]
        by_cases hl : k ≤ sp_ct (hs_days A i)
        · right
          rw [if_neg (nI_nlt hl (by omega))]
          have e : sp_la A k = some (i + 1) := by
            unfold sp_la
            rw [sp_find_some (by rw [sp_e60]; exact hi) (by simpa using hl) hno]
            rfl
          rw [e]
          exact ⟨m, rfl⟩
        · left
          rw [if_pos (nI_lt (show sp_ct (hs_days A i) < k by omega) (by omega)), mt_ltE, nI_1]
          refine ⟨_, _, ⟨rfl, ?_, ?_⟩, rfl⟩
          · simp only [hs_days]
            rw [← eD]
            exact cv_up hm (by decide) (by decide) (by decide) (by decide)
          · intro j hj
            by_cases q : j = i
            · subst q; simpa using hl
            · exact hno j (by omega)
    · rintro x m ⟨rfl, hm, hno⟩ kk
      rw [mi_60, if_pos (nI_lt (by decide) (by decide))]
      have e : sp_la A k = none := by
        unfold sp_la
        rw [sp_find_none (by rw [sp_e60]; exact hno)]
        rfl
      rw [e]
      exact ⟨m, rfl⟩
  obtain ⟨M', h1⟩ := key
  exact ⟨M', h1, fr_X8_firstDayWithoutSome _ M h1⟩
theorem xn_needs (hv : cv 13 M A) (hok : hs_ok A) (ht : t < A 6 0) {n : Nat} (hn : n ≤ 1000) : ∃ M', f_X8_leastStockFor (nI t) (nI n) M = some (sp_ov (sp_nd A t n), M') ∧ xn M M' := by
  have bu := (hok.2 t ht).2.2.1
  unfold f_X8_leastStockFor
  refine mt_lz2 (P := fun r => ∃ M', r = some (sp_ov (sp_nd A t n), M') ∧ xn M M') (fun i x m => x = nI i ∧ xn M m ∧ ∀ j, j < i → (sp_lN (A 0 t) (A 1 t) (A 2 t) n j == 0) = false) 100 (by decide) ?_ ?_ ⟨rfl, xn.rfl' M, fun j hj => absurd hj (by omega)⟩
  · rintro i hi x m ⟨rfl, hm, hno⟩ k
    obtain ⟨M', h1, h2, h3, h4, h5⟩ := xn_of (hm.cv hv) hok ht (s := i) (n := n) (by omega) hn
    rw [Nat.min_eq_right (show i ≤ 99 by omega)] at h2
    rw [mi_99, if_neg (nI_nlt (show i ≤ 99 by omega) (by omega)), h1]
    simp only [mt_b1E, h2, mt_ltE, nI_1]
    have hb := sp_lN_le (A 0 t) (A 1 t) (A 2 t) n i
    have hb2 : A 2 t * n ≤ 9 * 1000 := Nat.mul_le_mul bu hn
    by_cases hl : sp_lN (A 0 t) (A 1 t) (A 2 t) n i = 0
    · right
      rw [hl, if_pos (show nI 0 = 0 from rfl)]
      refine ⟨M', ?_, hm.trans h5⟩
      have e : sp_nd A t n = some i := by
        unfold sp_nd
        rw [sp_find_some (by rw [sp_e100]; exact hi) (by simpa using hl) hno]
      rw [e]; rfl
    · left
      rw [if_neg (nI_ne0 (by omega) (by omega))]
      refine ⟨_, _, ⟨rfl, hm.trans h5, ?_⟩, rfl⟩
      intro j hj
      by_cases q : j = i
      · subst q; simpa using hl
      · exact hno j (by omega)
  · rintro x m ⟨rfl, hm, hno⟩ k
    rw [mi_99, if_pos (nI_lt (by decide) (by decide))]
    refine ⟨m, ?_, hm⟩
    have e : sp_nd A t n = none := by
      unfold sp_nd
      rw [sp_find_none (by rw [sp_e100]; exact hno)]
    rw [e]; rfl
theorem xn_noWaste (hv : cv 13 M A) (hok : hs_ok A) (ht : t < A 6 0) {n : Nat} (hn : n ≤ 1000) : ∃ M', f_X8_mostPacksUnspoilt (nI t) (nI n) M = some (sp_ov (sp_nw A t n), M') ∧ xn M M' := by
  have bk := (hok.2 t ht).1
  have bs := (hok.2 t ht).2.2.2
  have bpk := sp_pk_le (A 0 t) (by omega)
  unfold f_X8_mostPacksUnspoilt
  refine mt_lz3 (P := fun r => ∃ M', r = some (sp_ov (sp_nw A t n), M') ∧ xn M M') (fun i x y m => x = sp_ov (sp_last (sp_ws A t n) i) ∧ y = nI i ∧ xn M m ∧ (0 < i → sp_ws A t n 0 = true)) 21 (by decide) ?_ ?_ ⟨rfl, rfl, xn.rfl' M, fun h => absurd h (by decide)⟩
  · rintro i hi x y m ⟨rfl, rfl, hm, h0⟩ k
    have hvm := hm.cv hv
    have hmul : i * sp_pk (A 0 t) ≤ 21 * 6 := Nat.mul_le_mul (by omega) bpk.1
    obtain ⟨M', h1, h2, h3, h4, h5⟩ := xn_of hvm hok ht (s := A 3 t + i * sp_pk (A 0 t)) (n := n) (by omega) hn
    have hb := sp_qN_le (A 0 t) (A 1 t) (A 2 t) n (Nat.min_le_left 99 (A 3 t + i * sp_pk (A 0 t)))
    have hb2 : 99 * n ≤ 99 * 1000 := Nat.mul_le_mul (Nat.le_refl _) hn
    rw [mi_20, if_neg (nI_nlt (show i ≤ 20 by omega) (by omega)), xn_with hvm hok ht]
    simp only [mt_b1E, h1, h3, mt_ltE, nI_1]
    have hw : sp_ws A t n i = (sp_qN (A 0 t) (A 1 t) (A 2 t) n (min 99 (A 3 t + i * sp_pk (A 0 t))) == 0) := rfl
    by_cases hl : sp_qN (A 0 t) (A 1 t) (A 2 t) n (min 99 (A 3 t + i * sp_pk (A 0 t))) = 0
    · left
      have hwT : sp_ws A t n i = true := by rw [hw]; simpa using hl
      rw [hl]
      refine ⟨nI i, nI (i + 1), M', ⟨?_, rfl, hm.trans h5, fun _ => ?_⟩, ?_⟩
      · simp only [sp_last, if_pos hwT, sp_ov]
      · by_cases q : i = 0
        · rw [← q]; exact hwT
        · exact h0 (by omega)
      · simp only [show nI 0 = 0 from rfl, if_true, show ((0 : Int32) ≤ 0) = True from eq_true (by decide), ite_self]
    · have hwF : ¬ sp_ws A t n i = true := by rw [hw]; simpa using hl
      have hne : ¬ nI (sp_qN (A 0 t) (A 1 t) (A 2 t) n (min 99 (A 3 t + i * sp_pk (A 0 t)))) = 0 := nI_ne0 (by omega) (by omega)
      have hnl : ¬ nI (sp_qN (A 0 t) (A 1 t) (A 2 t) n (min 99 (A 3 t + i * sp_pk (A 0 t)))) ≤ 0 := nI_nle (by omega) (by omega)
      by_cases q : i = 0
      · right
        rw [if_pos (show nI i = 0 by rw [q]; rfl), if_neg hnl]
        refine ⟨M', ?_, hm.trans h5⟩
        have e : sp_nw A t n = none := by unfold sp_nw; rw [if_neg (by rw [← q]; exact hwF)]
        rw [e]; rfl
      · left
        rw [if_neg (nI_ne0 (show 0 < i by omega) (by omega)), if_neg hne]
        refine ⟨_, _, _, ⟨?_, rfl, hm.trans h5, fun _ => h0 (by omega)⟩, rfl⟩
        simp only [sp_last, if_neg hwF]
  · rintro x y m ⟨rfl, rfl, hm, h0⟩ k
    rw [mi_20, if_pos (nI_lt (by decide) (by decide))]
    refine ⟨m, ?_, hm⟩
    have e : sp_nw A t n = sp_last (sp_ws A t n) 21 := by unfold sp_nw; rw [if_pos (h0 (by decide)), sp_e21]
    rw [e]
end XN2

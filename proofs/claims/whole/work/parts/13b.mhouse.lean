/-! WHAT CHANGES A HOUSE OF THE REFERENCE -/
/-- both lists' lines at t become b, their clocks c -/
def xj_m (m : mt_M) (t : Nat) (b c : Int32) : Nat → mt_M
  | 0 => m
  | j + 1 => mt_wr (mt_wr (xj_m m t b c j) 153 (7 * j + t) b) 154 (7 * j + t) c
theorem xj_r (m : mt_M) (t : Nat) (b c : Int32) (j : Nat) {id : Nat} (h : id ≠ 153) (h2 : id ≠ 154) : xj_m m t b c j id = m id := by
  induction j with
  | zero => rfl
  | succ j ih => simp only [xj_m]; rw [mt_wr_ne h2, mt_wr_ne h, ih]
theorem xj_153 (m : mt_M) (t : Nat) (b c : Int32) (x : Nat) : xj_m m t b c 2 153 x = if x = t ∨ x = 7 + t then b else m 153 x := by
  simp only [xj_m]
  rw [mt_wr_ne (by decide)]
  by_cases h : x = 7 * 1 + t
  · subst h; rw [mt_wr_s, if_pos (Or.inr (by omega))]
  · rw [mt_wr_n h, mt_wr_ne (by decide)]
    by_cases h2 : x = 7 * 0 + t
    · subst h2; rw [mt_wr_s, if_pos (Or.inl (by omega))]
    · rw [mt_wr_n h2, if_neg (by omega)]
theorem xj_154 (m : mt_M) (t : Nat) (b c : Int32) (x : Nat) : xj_m m t b c 2 154 x = if x = t ∨ x = 7 + t then c else m 154 x := by
  simp only [xj_m]
  by_cases h : x = 7 * 1 + t
  · subst h; rw [mt_wr_s, if_pos (Or.inr (by omega))]
  · rw [mt_wr_n h, mt_wr_ne (by decide)]
    by_cases h2 : x = 7 * 0 + t
    · subst h2; rw [mt_wr_s, if_pos (Or.inl (by omega))]
    · rw [mt_wr_n h2, mt_wr_ne (by decide), if_neg (by omega)]
theorem xj_at (m : mt_M) (t : Nat) (b c : Int32) {j : Nat} (hj : j < 2) : xj_m m t b c j 153 (7 * j + t) = m 153 (7 * j + t) := by
  rcases (show j = 0 ∨ j = 1 by omega) with rfl | rfl
  · rfl
  · simp only [xj_m]
    rw [mt_wr_ne (by decide), mt_wr_n (by omega)]
/-- how many lists' lines change at a thing -/
def xj_n (A : hs_A) (t : Nat) : Nat → Nat
  | 0 => 0
  | j + 1 => xj_n A t j + (if (A 6 (7 + j)).testBit t = sp_wb A (A 6 3) t then 0 else 1)
theorem sp_jc_sm {A : hs_A} (h : hs_wf A) : sp_jc A = sp_sm (A 6 0) (fun t => xj_n A t 2) := by
  have h7 := h.1.1
  have hw : sp_jw A < 2 ^ A 6 0 := sp_mk_lt _ _
  unfold sp_jc
  rw [sp_pc_n (sp_xor_lt h.2.2.1.1 hw) (by omega), sp_pc_n (sp_xor_lt h.2.2.1.2 hw) (by omega), ← sp_sm_add]
  refine sp_sm_congr (fun i hi => ?_)
  have e : (sp_jw A).testBit i = sp_wb A (A 6 3) i := by unfold sp_jw; rw [sp_mk_t]; simp [hi]
  simp only [xj_n, Nat.testBit_xor, e, Nat.zero_add]
  have key : ∀ p q r : Bool, (if (p ^^ r) = true then 1 else 0) + (if (q ^^ r) = true then 1 else 0) = (if p = r then 0 else 1) + (if q = r then 0 else 1) := by decide
  exact key _ _ _
section XH2
variable {M : mt_M} {A : hs_A} {t : Nat}
theorem xm_joins (hv : rm M A) (hwf : hs_wf A) : ∃ M', f_X12_joins M = some (nI (sp_jc A), M') ∧ rm M' (hs_jn A) ∧ ∀ id k, id ≠ 153 → id ≠ 154 → M' id k = M id k := by
  have h7 := hwf.1.1
  rw [sp_jc_sm hwf]
  unfold f_X12_joins
  refine mt_lz3 (P := fun r => ∃ M', r = some (nI (sp_sm (A 6 0) (fun t => xj_n A t 2)), M') ∧ rm M' (hs_jn A) ∧ ∀ id k, id ≠ 153 → id ≠ 154 → M' id k = M id k)
    (fun i x y m => x = nI (sp_sm i (fun t => xj_n A t 2)) ∧ y = nI i ∧ (∀ id k, id ≠ 153 → id ≠ 154 → m id k = M id k) ∧ ∀ t, t < A 6 0 → (m 153 t = (if t < i then (if sp_wb A (A 6 3) t = true then 1 else 0) else sp_bt (A 6 7) t) ∧ m 153 (7 + t) = (if t < i then (if sp_wb A (A 6 3) t = true then 1 else 0) else sp_bt (A 6 8) t)) ∧ (m 154 t = nI (if t < i then max (A 4 t) (A 5 t) else A 4 t) ∧ m 154 (7 + t) = nI (if t < i then max (A 4 t) (A 5 t) else A 5 t)))
    (A 6 0) (by omega) ?_ ?_ ⟨rfl, rfl, fun _ _ _ _ => rfl, fun t ht => ?_⟩
  · rintro i hi x y m ⟨rfl, rfl, hf, hm⟩ k
    left
    obtain ⟨⟨p1, p2⟩, p3, p4⟩ := hm i hi
    rw [if_neg (by omega)] at p1 p2 p3 p4
    obtain ⟨b0, b1, -⟩ := hwf.2.2.2.1 i (by omega)
    have e8 : m 147 8 = nI (A 6 0) := (hf 147 8 (by decide) (by decide)).trans hv.1.1
    have e11 : m 147 11 = nI (A 6 3) := (hf 147 11 (by decide) (by decide)).trans hv.1.2.2.2.1
    have ew := xm_wbL p1 p2 p3 p4 b0 b1 (show i < 7 by omega) hwf.2.1.2.2
    have el := xm_laterL p3 p4 (show i < 7 by omega)
    have hin : vp_in (nI i) 14 := vp_in_nI (by omega) (by omega)
    have hcl : (nI i).toNatClampNeg = i := nI_clamp (by omega)
    have hin7 : vp_in (nI (7 + i)) 14 := vp_in_nI (by omega) (by omega)
    have hcl7 : (nI (7 + i)).toNatClampNeg = 7 + i := nI_clamp (by omega)
    have z0 : ∀ a, nI a + (0 : Int32) = nI (a + 0) := fun a => nI_add a 0
    refine ⟨nI (sp_sm (i + 1) (fun t => xj_n A t 2)), nI (i + 1), xj_m m i (if sp_wb A (A 6 3) i = true then 1 else 0) (nI (max (A 4 i) (A 5 i))) 2, ⟨rfl, rfl, fun id x h1 h2 => ?_, fun t ht => ⟨⟨?_, ?_⟩, ?_, ?_⟩⟩, ?_⟩
    · rw [xj_r _ _ _ _ _ h1 h2]; exact hf id x h1 h2
    · rw [xj_153]
      by_cases q : t = i
      · subst q; rw [if_pos (Or.inl rfl), if_pos (show t < t + 1 by omega)]
      · rw [if_neg (by omega), (hm t ht).1.1]
        by_cases z : t < i
        · rw [if_pos z, if_pos (show t < i + 1 by omega)]
        · rw [if_neg z, if_neg (show ¬ t < i + 1 by omega)]
    · rw [xj_153]
      by_cases q : t = i
      · subst q; rw [if_pos (Or.inr rfl), if_pos (show t < t + 1 by omega)]
      · rw [if_neg (by omega), (hm t ht).1.2]
        by_cases z : t < i
        · rw [if_pos z, if_pos (show t < i + 1 by omega)]
        · rw [if_neg z, if_neg (show ¬ t < i + 1 by omega)]
    · rw [xj_154]
      by_cases q : t = i
      · subst q; rw [if_pos (Or.inl rfl), if_pos (show t < t + 1 by omega)]
      · rw [if_neg (by omega), (hm t ht).2.1]
        by_cases z : t < i
        · rw [if_pos z, if_pos (show t < i + 1 by omega)]
        · rw [if_neg z, if_neg (show ¬ t < i + 1 by omega)]
    · rw [xj_154]
      by_cases q : t = i
      · subst q; rw [if_pos (Or.inr rfl), if_pos (show t < t + 1 by omega)]
      · rw [if_neg (by omega), (hm t ht).2.2]
        by_cases z : t < i
        · rw [if_pos z, if_pos (show t < i + 1 by omega)]
        · rw [if_neg z, if_neg (show ¬ t < i + 1 by omega)]
    · rw [e8, if_neg (nI_ge hi (by omega)), e11, ew, mt_b1E, el, mt_b1E]
      have main : ∀ v : Int32, v = nI (max (A 4 i) (A 5 i)) → mt_lp3 (fun k17 (x14 : Int32) (x15 : Int32) (M16 : mt_M) => if (2 : Int32) ≤ x15 then mt_lt (nI i + (1 : Int32)) (fun (x20 : Int32) => k x14 x20 M16) else mt_ci (((7 : Int32) * x15) + nI i) 14 (mt_lt (fun (v22 : Int32) => mt_lt (x14 + v22) (fun (x25 : Int32) => mt_ci (((7 : Int32) * x15) + nI i) 14 (mt_lt (mt_wr M16 153 (((7 : Int32) * x15) + nI i).toNatClampNeg (if sp_wb A (A 6 3) i = true then 1 else 0)) (fun (M26 : mt_M) => mt_ci (((7 : Int32) * x15) + nI i) 14 (mt_lt (mt_wr M26 154 (((7 : Int32) * x15) + nI i).toNatClampNeg v) (fun (M28 : mt_M) => mt_lt (x15 + (1 : Int32)) (fun (x30 : Int32) => k17 x25 x30 M28))))))) (fun j23 => if (M16 153 (((7 : Int32) * x15) + nI i).toNatClampNeg) = (if sp_wb A (A 6 3) i = true then 1 else 0) then j23 (0 : Int32) else j23 (1 : Int32)))) mt_FU (nI (sp_sm i (fun t => xj_n A t 2))) (0 : Int32) m = k (nI (sp_sm (i + 1) (fun t => xj_n A t 2))) (nI (i + 1)) (xj_m m i (if sp_wb A (A 6 3) i = true then 1 else 0) (nI (max (A 4 i) (A 5 i))) 2) := by
        rintro v rfl
        refine mt_lz3 (P := fun o => o = k (nI (sp_sm (i + 1) (fun t => xj_n A t 2))) (nI (i + 1)) (xj_m m i (if sp_wb A (A 6 3) i = true then 1 else 0) (nI (max (A 4 i) (A 5 i))) 2)) (fun j x y m' => x = nI (sp_sm i (fun t => xj_n A t 2) + xj_n A i j) ∧ y = nI j ∧ m' = xj_m m i (if sp_wb A (A 6 3) i = true then 1 else 0) (nI (max (A 4 i) (A 5 i))) j) 2 (by decide) ?_ ?_ ⟨rfl, rfl, rfl⟩
        · rintro j hj x y m' ⟨rfl, rfl, rfl⟩ k2
          left
          have hinj : vp_in (nI (7 * j + i)) 14 := vp_in_nI (by omega) (by omega)
          have hclj : (nI (7 * j + i)).toNatClampNeg = 7 * j + i := nI_clamp (by omega)
          have ev : xj_m m i (if sp_wb A (A 6 3) i = true then 1 else 0) (nI (max (A 4 i) (A 5 i))) j 153 (7 * j + i) = sp_bt (A 6 (7 + j)) i := by
            rw [xj_at _ _ _ _ hj]
            rcases (show j = 0 ∨ j = 1 by omega) with rfl | rfl
            · rw [show 7 * 0 + i = i by omega]; exact p1
            · exact p2
          refine ⟨_, _, _, ⟨rfl, rfl, rfl⟩, ?_⟩
          rw [mi_2, if_neg (nI_ge hj (by omega))]
          simp only [mt_ltE, mi_7, pk_mul, nI_add, mt_ci_t hinj, hclj, ev, sp_bt_eq, nI_1, xj_m, xj_n]
          by_cases z : (A 6 (7 + j)).testBit i = sp_wb A (A 6 3) i
          · rw [if_pos z, if_pos z, z0, Nat.add_assoc]
          · rw [if_neg z, if_neg z, Nat.add_assoc]
        · rintro x y m' ⟨rfl, rfl, rfl⟩ k2
          rw [mi_2, if_pos (nI_le (Nat.le_refl _) (by omega)), mt_ltE, nI_1]
          rfl
      by_cases d : sp_lr A i 0 = true
      · have hm5 : max (A 4 i) (A 5 i) = A 5 i := by
          unfold sp_lr at d
          have e : nI (A 5 i) + 0 = nI (A 5 i) := nI_add (A 5 i) 0
          rw [e] at d
          have : ¬ nI (A 5 i) ≤ nI (A 4 i) := by simpa using d
          have : ¬ A 5 i ≤ A 4 i := fun q => this (nI_le q (by omega))
          omega
        rw [mt_ltE, if_pos (by rw [if_pos d])]
        simp only [mi_7, nI_add, mt_ci_t hin7, hcl7, p4]
        have := main (nI (A 5 i)) (by rw [hm5])
        simpa only [mi_7] using this
      · have hm4 : max (A 4 i) (A 5 i) = A 4 i := by
          unfold sp_lr at d
          have e : nI (A 5 i) + 0 = nI (A 5 i) := nI_add (A 5 i) 0
          rw [e] at d
          have : nI (A 5 i) ≤ nI (A 4 i) := by simpa using d
          have := (nI_leI (by omega) (by omega)).mp this
          omega
        rw [mt_ltE, if_neg (by rw [if_neg d]; decide)]
        simp only [mt_ci_t hin, hcl, p3]
        exact main (nI (A 4 i)) (by rw [hm4])
  · rintro x y m ⟨rfl, rfl, hf, hm⟩ k
    rw [hf 147 8 (by decide) (by decide), hv.1.1, if_pos (nI_le (Nat.le_refl _) (by omega))]
    obtain ⟨⟨a1, a2, a3, a4, a5, a6, a7⟩, hr⟩ := hv
    refine ⟨m, rfl, ⟨⟨?_, ?_, ?_, ?_, ?_, ?_, ?_⟩, fun t ht h7 => ?_⟩, hf⟩
    · rw [hf _ _ (by decide) (by decide), hs_jn_6 A (by decide) (by decide)]; exact a1
    · rw [hf _ _ (by decide) (by decide), hs_jn_6 A (by decide) (by decide)]; exact a2
    · rw [hf _ _ (by decide) (by decide), hs_jn_6 A (by decide) (by decide)]; exact a3
    · rw [hf _ _ (by decide) (by decide), hs_jn_6 A (by decide) (by decide)]; exact a4
    · rw [hf _ _ (by decide) (by decide), hs_jn_6 A (by decide) (by decide)]; exact a5
    · rw [hf _ _ (by decide) (by decide), hs_jn_6 A (by decide) (by decide)]; exact a6
    · rw [hf _ _ (by decide) (by decide), hs_jn_6 A (by decide) (by decide)]; exact a7
    · rw [hs_jn_6 A (by decide) (by decide)] at ht
      obtain ⟨⟨p1, p2⟩, p3, p4⟩ := hm t ht
      rw [if_pos ht] at p1 p2 p3 p4
      obtain ⟨q1, q2, q3, q4, -⟩ := hr t ht h7
      have ej : sp_bt (sp_jw A) t = (if sp_wb A (A 6 3) t = true then 1 else 0) := by
        unfold sp_bt sp_jw
        rw [sp_mk_t]
        simp [ht]
      rw [hs_jn_r A (by decide) (by decide) (by decide), hs_jn_r A (by decide) (by decide) (by decide), hs_jn_r A (by decide) (by decide) (by decide), hs_jn_r A (by decide) (by decide) (by decide), (hs_jn_m A).1, (hs_jn_m A).2, (hs_jn_c A t).1, (hs_jn_c A t).2, hf _ _ (by decide) (by decide), hf _ _ (by decide) (by decide), hf _ _ (by decide) (by decide), hf _ _ (by decide) (by decide), ej]
      exact ⟨q1, q2, q3, q4, p1, p2, p3, p4⟩
  · obtain ⟨-, -, -, -, q⟩ := hv.2 t ht (by omega)
    rw [if_neg (by omega), if_neg (by omega), if_neg (by omega), if_neg (by omega)]
    exact ⟨⟨q.1, q.2.1⟩, q.2.2.1, q.2.2.2⟩
theorem xm_adds (hv : rm M A) (hwf : hs_wf A) (hn : A 6 0 < 7) (k f u : Nat) : ∃ M', f_X12_adds (nI k) (nI f) (nI u) M = some M' ∧ rm M' (hs_ad A k f u) ∧ M' 147 8 = nI (A 6 0 + 1) ∧ ∀ id x, (id ≠ 147 ∨ x ≠ 8) → (id < 149 ∨ 154 < id) → M' id x = M id x := by
  have hin : vp_in (nI (A 6 0)) 7 := vp_in_nI (by omega) (by omega)
  have hcl : (nI (A 6 0)).toNatClampNeg = A 6 0 := nI_clamp (by omega)
  obtain ⟨⟨a1, a2, a3, a4, a5, a6, a7⟩, hr⟩ := hv
  obtain ⟨M4, e4⟩ : ∃ m, m = mt_wr (mt_wr (mt_wr (mt_wr M 149 (A 6 0) (nI k)) 150 (A 6 0) (nI f)) 151 (A 6 0) (nI u)) 152 (A 6 0) 0 := ⟨_, rfl⟩
  have w149 : ∀ (m : mt_M) (k : Nat) (x : Int32), mt_wr m 149 k x 147 = m 147 := fun m k x => mt_wr_ne (by decide)
  have w150 : ∀ (m : mt_M) (k : Nat) (x : Int32), mt_wr m 150 k x 147 = m 147 := fun m k x => mt_wr_ne (by decide)
  have w151 : ∀ (m : mt_M) (k : Nat) (x : Int32), mt_wr m 151 k x 147 = m 147 := fun m k x => mt_wr_ne (by decide)
  have w152 : ∀ (m : mt_M) (k : Nat) (x : Int32), mt_wr m 152 k x 147 = m 147 := fun m k x => mt_wr_ne (by decide)
  have w153 : ∀ (m : mt_M) (k : Nat) (x : Int32), mt_wr m 153 k x 147 = m 147 := fun m k x => mt_wr_ne (by decide)
  have e147 : M4 147 = M 147 := by rw [e4, w152, w151, w150, w149]
  have e4o : ∀ id, (id < 149 ∨ 152 < id) → M4 id = M id := fun id h => by rw [e4, mt_wr_ne (by omega), mt_wr_ne (by omega), mt_wr_ne (by omega), mt_wr_ne (by omega)]
  unfold f_X12_adds
  rw [a1, mt_ci_t hin, hcl, mt_ltE, w149, a1, mt_ci_t hin, hcl, mt_ltE, w150, w149, a1, mt_ci_t hin, hcl, mt_ltE, w151, w150, w149, a1, mt_ci_t hin, hcl, mt_ltE, ← e4]
  refine mt_lz2 (P := fun r => ∃ M', r = some M' ∧ rm M' (hs_ad A k f u) ∧ M' 147 8 = nI (A 6 0 + 1) ∧ ∀ id x, (id ≠ 147 ∨ x ≠ 8) → (id < 149 ∨ 154 < id) → M' id x = M id x) (fun j x m => x = nI j ∧ m = xj_m M4 (A 6 0) 0 0 j) 2 (by decide) ?_ ?_ ⟨rfl, rfl⟩
  · rintro j hj x m ⟨rfl, rfl⟩ k2
    left
    have hinj : vp_in (nI (7 * j + A 6 0)) 14 := vp_in_nI (by omega) (by omega)
    have hclj : (nI (7 * j + A 6 0)).toNatClampNeg = 7 * j + A 6 0 := nI_clamp (by omega)
    have e9 : xj_m M4 (A 6 0) 0 0 j 147 = M 147 := (xj_r _ _ _ _ _ (by decide) (by decide)).trans e147
    refine ⟨_, _, ⟨rfl, rfl⟩, ?_⟩
    rw [mi_2, if_neg (nI_ge hj (by omega))]
    simp only [mi_7, pk_mul, e9, a1, nI_add, mt_ci_t hinj, hclj, mt_ltE, w153, nI_1, xj_m]
  · rintro x m ⟨rfl, rfl⟩ k2
    have e9 : xj_m M4 (A 6 0) 0 0 2 147 = M 147 := (xj_r _ _ _ _ _ (by decide) (by decide)).trans e147
    rw [mi_2, if_pos (nI_le (Nat.le_refl _) (by omega)), e9, a1, nI_1]
    have eo : ∀ id x, (id ≠ 147 ∨ x ≠ 8) → (id < 149 ∨ 154 < id) → mt_wr (xj_m M4 (A 6 0) 0 0 2) 147 8 (nI (A 6 0 + 1)) id x = M id x := fun id x h1 h2 => by
      rw [mt_wr_ne2 h1, xj_r _ _ _ _ _ (by omega) (by omega), e4o id (by omega)]
    have e := fun x hx => hs_ad_6 A k f u (x := x) hx
    have er : ∀ id x, 149 ≤ id → id ≤ 152 → mt_wr (xj_m M4 (A 6 0) 0 0 2) 147 8 (nI (A 6 0 + 1)) id x = M4 id x := fun id x h1 h2 => by
      rw [mt_wr_ne (by omega), xj_r _ _ _ _ _ (by omega) (by omega)]
    have e53 : ∀ x, mt_wr (xj_m M4 (A 6 0) 0 0 2) 147 8 (nI (A 6 0 + 1)) 153 x = if x = A 6 0 ∨ x = 7 + A 6 0 then 0 else M 153 x := fun x => by
      rw [mt_wr_ne (by decide), xj_153, e4o 153 (by decide)]
    have e54 : ∀ x, mt_wr (xj_m M4 (A 6 0) 0 0 2) 147 8 (nI (A 6 0 + 1)) 154 x = if x = A 6 0 ∨ x = 7 + A 6 0 then 0 else M 154 x := fun x => by
      rw [mt_wr_ne (by decide), xj_154, e4o 154 (by decide)]
    refine ⟨_, rfl, ⟨⟨?_, ?_, ?_, ?_, ?_, ?_, ?_⟩, fun t ht h7 => ?_⟩, mt_wr_s _ _ _ _, eo⟩
    · rw [hs_ad_0, mt_wr_s]
    · rw [eo 147 9 (by decide) (by decide), e 1 (by decide)]; exact a2
    · rw [eo 147 10 (by decide) (by decide), e 2 (by decide)]; exact a3
    · rw [eo 147 11 (by decide) (by decide), e 3 (by decide)]; exact a4
    · rw [eo 155 0 (by decide) (by decide), e 4 (by decide)]; exact a5
    · rw [eo 155 1 (by decide) (by decide), e 5 (by decide)]; exact a6
    · rw [eo 155 2 (by decide) (by decide), e 6 (by decide)]; exact a7
    · rw [hs_ad_0] at ht
      rw [er 149 t (by decide) (by decide), er 150 t (by decide) (by decide), er 151 t (by decide) (by decide), er 152 t (by decide) (by decide), e53, e53, e54, e54, (hs_ad_c A k f u).1, (hs_ad_c A k f u).2, e 7 (by decide), e 8 (by decide)]
      by_cases q : t = A 6 0
      · subst q
        obtain ⟨q1, q2, q3, q4⟩ := hs_ad_n A k f u
        obtain ⟨-, -, c3⟩ := hwf.2.2.2.1 (A 6 0) hn
        obtain ⟨c4, c5⟩ := c3 (Nat.le_refl _)
        have b7 : sp_bt (A 6 7) (A 6 0) = 0 := by unfold sp_bt; rw [Nat.testBit_lt_two_pow hwf.2.2.1.1]; rfl
        have b8 : sp_bt (A 6 8) (A 6 0) = 0 := by unfold sp_bt; rw [Nat.testBit_lt_two_pow hwf.2.2.1.2]; rfl
        rw [q1, q2, q3, q4, if_pos (Or.inl rfl), if_pos (Or.inr rfl), if_pos (Or.inl rfl), if_pos (Or.inr rfl), b7, b8, c4, c5, e4]
        refine ⟨?_, ?_, ?_, ?_, rfl, rfl, rfl, rfl⟩
        · rw [mt_wr_ne (by decide), mt_wr_ne (by decide), mt_wr_ne (by decide), mt_wr_s]
        · rw [mt_wr_ne (by decide), mt_wr_ne (by decide), mt_wr_s]
        · rw [mt_wr_ne (by decide), mt_wr_s]
        · rw [mt_wr_s]; rfl
      · have hq := hr t (by omega) h7
        rw [hs_ad_t A k f u (by decide) q, hs_ad_t A k f u (by decide) q, hs_ad_t A k f u (by decide) q, hs_ad_t A k f u (by decide) q, if_neg (by omega), if_neg (by omega), if_neg (by omega), if_neg (by omega), e4]
        obtain ⟨q1, q2, q3, q4, q5⟩ := hq
        refine ⟨?_, ?_, ?_, ?_, q5⟩
        · rw [mt_wr_ne (by decide), mt_wr_ne (by decide), mt_wr_ne (by decide), mt_wr_n q]; exact q1
        · rw [mt_wr_ne (by decide), mt_wr_ne (by decide), mt_wr_n q, mt_wr_ne (by decide)]; exact q2
        · rw [mt_wr_ne (by decide), mt_wr_n q, mt_wr_ne (by decide), mt_wr_ne (by decide)]; exact q3
        · rw [mt_wr_n q, mt_wr_ne (by decide), mt_wr_ne (by decide), mt_wr_ne (by decide)]; exact q4
theorem sp_mkb_t (w t x : Nat) (b : Bool) : (if b = true then w ||| 2 ^ t else sp_an w (2 ^ t)).testBit x = if x = t then b else w.testBit x := by
  cases b with
  | true =>
    rw [if_pos rfl, Nat.testBit_or, Nat.testBit_two_pow]
    by_cases h : x = t
    · subst h; simp
    · simp [h, Ne.symm h]
  | false =>
    rw [if_neg (by decide), sp_an_t, Nat.testBit_two_pow]
    by_cases h : x = t
    · subst h; simp
    · simp [h, Ne.symm h]
theorem xm_marks (hv : rm M A) (hwf : hs_wf A) {l : Nat} (hl : l < 2) (ht : t < A 6 0) (b : Bool) : ∃ M', f_X12_marks (nI l) (nI t) (if b = true then 1 else 0) M = some M' ∧ rm M' (hs_mk A l t b) ∧ ∀ id x, (id ≠ 147 ∨ x ≠ 9) → id ≠ 153 → id ≠ 154 → M' id x = M id x := by
  have h7 := hwf.1.1
  have hin : vp_in (nI (7 * l + t)) 14 := vp_in_nI (by omega) (by omega)
  have hcl : (nI (7 * l + t)).toNatClampNeg = 7 * l + t := nI_clamp (by omega)
  obtain ⟨⟨a1, a2, a3, a4, a5, a6, a7⟩, hr⟩ := hv
  have eo : ∀ id x, (id ≠ 147 ∨ x ≠ 9) → id ≠ 153 → id ≠ 154 → mt_wr (mt_wr (mt_wr M 147 9 (nI (A 6 1 + 1))) 153 (7 * l + t) (if b = true then 1 else 0)) 154 (7 * l + t) (nI (A 6 1 + 1)) id x = M id x := fun id x h1 h2 h3 => by
    rw [mt_wr_ne h3, mt_wr_ne h2, mt_wr_ne2 h1]
  refine ⟨mt_wr (mt_wr (mt_wr M 147 9 (nI (A 6 1 + 1))) 153 (7 * l + t) (if b = true then 1 else 0)) 154 (7 * l + t) (nI (A 6 1 + 1)), ?_, ⟨⟨?_, ?_, ?_, ?_, ?_, ?_, ?_⟩, fun x hx hx7 => ?_⟩, eo⟩
  · have e9 : mt_wr (mt_wr M 147 9 (nI (A 6 1 + 1))) 153 (7 * l + t) (if b = true then 1 else 0) 147 9 = nI (A 6 1 + 1) := by rw [mt_wr_ne (by decide), mt_wr_s]
    simp only [f_X12_marks, a2, nI_1, mi_7, pk_mul, nI_add, mt_ci_t hin, hcl, mt_ltE, e9]
  · rw [eo _ _ (by decide) (by decide) (by decide), hs_mk_6 A hl b (by decide) (by decide) (by decide)]; exact a1
  · rw [hs_mk_1 A hl b, mt_wr_ne (by decide), mt_wr_ne (by decide), mt_wr_s]
  · rw [eo _ _ (by decide) (by decide) (by decide), hs_mk_6 A hl b (by decide) (by decide) (by decide)]; exact a3
  · rw [eo _ _ (by decide) (by decide) (by decide), hs_mk_6 A hl b (by decide) (by decide) (by decide)]; exact a4
  · rw [eo _ _ (by decide) (by decide) (by decide), hs_mk_6 A hl b (by decide) (by decide) (by decide)]; exact a5
  · rw [eo _ _ (by decide) (by decide) (by decide), hs_mk_6 A hl b (by decide) (by decide) (by decide)]; exact a6
  · rw [eo _ _ (by decide) (by decide) (by decide), hs_mk_6 A hl b (by decide) (by decide) (by decide)]; exact a7
  · rw [hs_mk_6 A hl b (by decide) (by decide) (by decide)] at hx
    obtain ⟨q1, q2, q3, q4, q5, q6, q7, q8⟩ := hr x hx hx7
    have o3 : ∀ v, v < 2 → M 153 (7 * v + x) = sp_bt (A 6 (7 + v)) x := fun v hv => by
      rcases (show v = 0 ∨ v = 1 by omega) with rfl | rfl
      · rw [show 7 * 0 + x = x by omega]; exact q5
      · exact q6
    have o4 : ∀ v, v < 2 → M 154 (7 * v + x) = nI (A (4 + v) x) := fun v hv => by
      rcases (show v = 0 ∨ v = 1 by omega) with rfl | rfl
      · rw [show 7 * 0 + x = x by omega]; exact q7
      · exact q8
    have n3 : ∀ v, v < 2 → mt_wr (mt_wr (mt_wr M 147 9 (nI (A 6 1 + 1))) 153 (7 * l + t) (if b = true then 1 else 0)) 154 (7 * l + t) (nI (A 6 1 + 1)) 153 (7 * v + x) = sp_bt (hs_mk A l t b 6 (7 + v)) x := fun v hv => by
      rw [hs_mk_m A hl b hv, mt_wr_ne (by decide)]
      by_cases z : v = l
      · subst z
        rw [if_pos rfl]
        unfold sp_bt
        rw [sp_mkb_t]
        by_cases z2 : x = t
        · subst z2; rw [mt_wr_s, if_pos rfl]
        · rw [mt_wr_n (by omega), mt_wr_ne (by decide), if_neg z2]; exact o3 v hv
      · rw [if_neg z, mt_wr_n (by omega), mt_wr_ne (by decide)]; exact o3 v hv
    have n4 : ∀ v, v < 2 → mt_wr (mt_wr (mt_wr M 147 9 (nI (A 6 1 + 1))) 153 (7 * l + t) (if b = true then 1 else 0)) 154 (7 * l + t) (nI (A 6 1 + 1)) 154 (7 * v + x) = nI (hs_mk A l t b (4 + v) x) := fun v hv => by
      rw [hs_mk_c A hl b hv]
      by_cases z : v = l ∧ x = t
      · obtain ⟨rfl, rfl⟩ := z
        rw [mt_wr_s, if_pos ⟨rfl, rfl⟩]
      · rw [mt_wr_n (by omega), mt_wr_ne (by decide), mt_wr_ne (by decide), if_neg z]; exact o4 v hv
    refine ⟨?_, ?_, ?_, ?_, ?_, n3 1 (by decide), ?_, n4 1 (by decide)⟩
    · rw [eo _ _ (Or.inl (by decide)) (by decide) (by decide), hs_mk_r A l t b (by decide)]; exact q1
    · rw [eo _ _ (Or.inl (by decide)) (by decide) (by decide), hs_mk_r A l t b (by decide)]; exact q2
    · rw [eo _ _ (Or.inl (by decide)) (by decide) (by decide), hs_mk_r A l t b (by decide)]; exact q3
    · rw [eo _ _ (Or.inl (by decide)) (by decide) (by decide), hs_mk_r A l t b (by decide)]; exact q4
    · have := n3 0 (by decide)
      rw [show 7 * 0 + x = x by omega] at this
      exact this
    · have := n4 0 (by decide)
      rw [show 7 * 0 + x = x by omega] at this
      exact this
theorem xm_buys (hv : rm M A) (hwf : hs_wf A) {l : Nat} (hl : l < 2) (ht : t < A 6 0) (hn : A 6 1 < 999) : ∃ M', f_X12_buys (nI l) (nI t) M = some M' ∧ rm M' (hs_buy (hs_mk A l t false) t 1) ∧ ∀ id x, (id ≠ 147 ∨ x ≠ 9) → (id < 152 ∨ 155 < id) → M' id x = M id x := by
  obtain ⟨M2, p1, p2, p3⟩ := xm_marks hv hwf hl ht false
  have okm := (hs_wf_mk hwf hl ht hn false).1.1
  obtain ⟨M4, q1, q2⟩ := xm_gets p2 okm (t := t) (by rw [hs_mk_6 A hl false (by decide) (by decide) (by decide)]; exact ht)
  have fr := fr_X12_gets _ _ q1
  have p1 : f_X12_marks (nI l) (nI t) 0 M = some M2 := p1
  refine ⟨M4, ?_, q2, fun id x h1 h2 => ?_⟩
  · simp only [f_X12_buys, p1, mt_b1E, q1]
  · rw [fr id x (by omega), p3 id x h1 (by omega) (by omega)]
end XH2

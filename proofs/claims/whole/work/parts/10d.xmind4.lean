/-! THE CHEAPEST: the class -/
/-- only the shelf is touched -/
def xn3 (M M' : mt_M) : Prop := ∀ id, (id < 137 ∨ 145 ≤ id) → M' id = M id
theorem xn3.xn {M M' : mt_M} (h : xn3 M M') : xn M M' := fun id hid => h id (by omega)
theorem fx_of {M M' : mt_M} {a b c : Int32} (hf : f_X8_liveDaysOf a b c M = some M') : xn3 M M' := by
  intro id hid
  have hb := hf
  unfold f_X8_liveDaysOf at hb
  refine mt_b1I hb (fun M2 g2 hb => ?_)
  refine mt_b1I hb (fun M4 g4 hb => ?_)
  have e2 : M2 id = M id := by
    unfold f_X8_begin at g2
    refine mt_b1I g2 (fun N1 q1 g2 => ?_)
    refine mt_b1I g2 (fun N2 q2 g2 => ?_)
    have i1 := mt_so1 g2
    subst i1
    rw [fr_X0_forgetTallies _ _ q2 id (by omega), fr_X0_become _ _ _ q1 id (by omega)]
  have e4 : M4 id = M2 id := fr_X0_putStock _ _ _ _ g4 id (by omega)
  have e5 : M' id = M4 id := by
    refine mt_lpI2 hb (fun (_ : Int32) (m : mt_M) => m id = M4 id → M' id = M4 id) ?_ rfl
    intro k ih x m hf hm
    by_cases q : c ≤ x
    · have hf := mt_ifT q hf
      have i1 := mt_so1 hf
      subst i1
      exact hm
    · have hf := mt_ifF q hf
      refine mt_b2I hf (fun r N g hf => ?_)
      exact ih _ _ hf ((fr_X0_liveDayOf _ _ _ g id (by omega)).trans hm)
  rw [e5, e4, e2]
theorem fx_packs {M M' : mt_M} {a b r : Int32} (hf : f_X8_packsFor a b M = some (r, M')) : xn3 M M' := by
  intro id hid
  have hb := hf
  unfold f_X8_packsFor at hb
  refine mt_lpI2 hb (fun (_ : Int32) (m : mt_M) => m id = M id → M' id = M id) ?_ rfl
  intro k ih x m hf hm
  by_cases q : (20 : Int32) < x
  · have hf := mt_ifT q hf
    obtain ⟨-, i1⟩ := mt_so2 hf
    subst i1
    exact hm
  · have hf := mt_ifF q hf
    refine mt_b1I hf (fun r7 g7 hf => ?_)
    refine mt_b1I hf (fun M9 g9 hf => ?_)
    have e9 : M9 id = M id := (fx_of g9 id hid).trans hm
    by_cases q2 : M9 137 10 = 0
    · have hf := mt_ifT q2 hf
      obtain ⟨-, i1⟩ := mt_so2 hf
      subst i1
      exact e9
    · have hf := mt_ifF q2 hf
      exact ih _ _ hf e9
noncomputable def sp_co (A : hs_A) (n t : Nat) : Option Nat := match sp_pf A t n with
  | some k => some (k * sp_pr (A 0 t) (A 1 t))
  | none => none
theorem sp_pf_lt {A : hs_A} {t n k : Nat} (h : sp_pf A t n = some k) : k < 21 := by
  have h1 := (sp_find_lt h).1
  rw [sp_e21] at h1
  exact h1
theorem sp_co_le {A : hs_A} (hok : hs_ok A) {t : Nat} (ht : t < A 6 0) {n v : Nat} (h : sp_co A n t = some v) : v ≤ 1100 := by
  unfold sp_co at h
  cases q : sp_pf A t n with
  | none => rw [q] at h; cases h
  | some k =>
    rw [q] at h
    obtain rfl := Option.some.inj h
    have h1 := sp_pf_lt q
    have h2 := (sp_pr_le (A 0 t) (by have := (hok.2 t ht).1; omega) (A 1 t) (by have := (hok.2 t ht).2.1; omega)).1
    have h3 : k * sp_pr (A 0 t) (A 1 t) ≤ 20 * 55 := Nat.mul_le_mul (by omega) h2
    exact h3
def sp_gv : Option Nat → Nat
  | some v => v
  | none => 0
def sp_chT (f : Nat → Option Nat) : Nat → Option Nat
  | 0 => none
  | i + 1 => match f i with
    | none => sp_chT f i
    | some v => match sp_chT f i with
      | none => some i
      | some p => if sp_gv (f p) ≤ v then some p else some i
theorem sp_chT_lt {f : Nat → Option Nat} {i p : Nat} (h : sp_chT f i = some p) : p < i ∧ f p ≠ none := by
  induction i with
  | zero => cases h
  | succ i ih =>
    simp only [sp_chT] at h
    cases q : f i with
    | none => rw [q] at h; have := ih h; exact ⟨by omega, this.2⟩
    | some v =>
      rw [q] at h
      cases q2 : sp_chT f i with
      | none => rw [q2] at h; obtain rfl := Option.some.inj h; exact ⟨by omega, by rw [q]; exact fun z => by cases z⟩
      | some p2 =>
        rw [q2] at h
        by_cases z : sp_gv (f p2) ≤ v
        · simp only [if_pos z] at h
          obtain rfl := Option.some.inj h
          have := ih q2
          exact ⟨by omega, this.2⟩
        · simp only [if_neg z] at h
          obtain rfl := Option.some.inj h
          exact ⟨by omega, by rw [q]; exact fun z => by cases z⟩
theorem sp_chT_congr {f g : Nat → Option Nat} {n : Nat} (h : ∀ t, t < n → f t = g t) : sp_chT f n = sp_chT g n := by
  induction n with
  | zero => rfl
  | succ n ih =>
    simp only [sp_chT]
    rw [ih (fun t ht => h t (by omega)), h n (by omega)]
    cases g n with
    | none => rfl
    | some v =>
      cases q : sp_chT g n with
      | none => rfl
      | some p => simp only [h p (by have := (sp_chT_lt q).1; omega)]
def sp_off (f : Nat → Option Nat) (r : Nat) : Nat → Option Nat := fun t => if t = r then none else f t
def sp_fw (f : Nat → Option Nat) (n : Nat) : Nat → Option (Nat × (Nat → Option Nat))
  | 0 => some (0, f)
  | k + 1 => match sp_fw f n k with
    | none => none
    | some (s, g) => match sp_chT g n with
      | none => none
      | some r => some (s + sp_gv (g r), sp_off g r)
theorem sp_fw_none {f : Nat → Option Nat} {n i : Nat} (h : sp_fw f n i = none) : ∀ k, i ≤ k → sp_fw f n k = none
  | 0, hk => by rw [show i = 0 by omega] at h; exact h
  | k + 1, hk => by
    by_cases q : i = k + 1
    · rw [← q]; exact h
    · simp only [sp_fw]; rw [sp_fw_none h k (by omega)]
def sp_fv (f : Nat → Option Nat) (n k : Nat) : Option Nat := match sp_fw f n k with
  | some (s, _) => some s
  | none => none
theorem sp_ovN {v : Nat} (h : v < 2 ^ 31) : ¬ sp_ov (some v) = -9 := fun q => by cases (sp_ov_neg (o := some v) (fun i z => by obtain rfl := Option.some.inj z; exact h)).2.2.mp q
section XN4
variable {M : mt_M} {A : hs_A} {t : Nat} {f : Nat → Option Nat}
theorem xn_note (hv : cv 13 M A) (hok : hs_ok A) {n : Nat} (hn : n ≤ 1000) : ∃ M', f_X8_noteCosts (nI n) M = some M' ∧ (∀ t, t < A 6 0 → M' 136 t = sp_ov (sp_co A n t)) ∧ xn M M' := by
  have h7 := hok.1
  have key : ∃ M', f_X8_noteCosts (nI n) M = some M' ∧ (∀ t, t < A 6 0 → M' 136 t = sp_ov (sp_co A n t)) := by
    unfold f_X8_noteCosts
    refine mt_lz2 (P := fun r => ∃ M' : mt_M, r = some M' ∧ (∀ t, t < A 6 0 → M' 136 t = sp_ov (sp_co A n t))) (fun i x m => x = nI i ∧ xn M m ∧ ∀ t, t < i → m 136 t = sp_ov (sp_co A n t)) (A 6 0) (by omega) ?_ ?_ ⟨rfl, xn.rfl' M, fun t ht => absurd ht (by omega)⟩
    · rintro i hi x m ⟨rfl, hm, hw⟩ k
      left
      have hvm := hm.cv hv
      have hin : vp_in (nI i) 7 := vp_in_nI (by omega) (by omega)
      have hcl : (nI i).toNatClampNeg = i := nI_clamp (by omega)
      obtain ⟨M1, h1, h2⟩ := xn_packs hvm hok hi hn
      have h3 := fx_packs h1
      have r4 := (xc_row (h2.cv hvm) hok hi).2.2.2.1
      refine ⟨nI (i + 1), mt_wr M1 136 i (sp_ov (sp_co A n i)), ⟨rfl, ?_, ?_⟩, ?_⟩
      · exact (hm.trans h2).trans (fun id hid => by rw [mt_wr_ne (by omega)])
      · intro t ht
        by_cases q : t = i
        · subst q; rw [mt_wr_s]
        · rw [mt_wr_n q, h3 136 (by omega)]
          exact hw t (by omega)
      · rw [hvm.1.1, if_neg (nI_ge hi (by omega)), h1]
        simp only [mt_b2E, mt_ltE, mt_ci_t hin, hcl, nI_1, r4, mt_b1E]
        cases q : sp_pf A i n with
        | none =>
          have e : sp_pks A i n = 99 := (sp_pks_99 A i n).1.mpr q
          rw [e, if_pos (show nI 99 = 99 from rfl)]
          unfold sp_co
          rw [q]
          rfl
        | some j =>
          have e : sp_pks A i n = j := by unfold sp_pks; rw [q]
          have hj := sp_pf_lt q
          rw [e, mi_99, if_neg (fun z => by have := (nI_eq (by omega) (by omega)).mp z; omega), pk_mul]
          unfold sp_co
          rw [q]
          rfl
    · rintro x m ⟨rfl, hm, hw⟩ k
      rw [(hm.cv hv).1.1, if_pos (nI_le (Nat.le_refl _) (by omega))]
      exact ⟨m, rfl, hw⟩
  obtain ⟨M', h1, h2⟩ := key
  exact ⟨M', h1, h2, fr_X8_noteCosts _ M h1⟩
theorem xn_pence (hv : cv 13 M A) (h7 : A 6 0 ≤ 7) (hw : ∀ t, t < A 6 0 → M 136 t = sp_ov (f t)) (hb : ∀ t, t < A 6 0 → ∀ v, f t = some v → v ≤ 1100) : f_X8_penceForAll M = some (nI (sp_sm (A 6 0) (fun t => sp_gv (f t)))) := by
  unfold f_X8_penceForAll
  refine mt_lz2 (P := fun r => r = some (nI (sp_sm (A 6 0) (fun t => sp_gv (f t))))) (fun i x y => x = nI (sp_sm i (fun t => sp_gv (f t))) ∧ y = nI i) (A 6 0) (by omega) ?_ ?_ ⟨rfl, rfl⟩
  · rintro i hi x y ⟨rfl, rfl⟩ k
    left
    have hin : vp_in (nI i) 7 := vp_in_nI (by omega) (by omega)
    have hcl : (nI i).toNatClampNeg = i := nI_clamp (by omega)
    refine ⟨_, _, ⟨rfl, rfl⟩, ?_⟩
    rw [hv.1.1, if_neg (nI_ge hi (by omega))]
    simp only [mt_ltE, mt_ci_t hin, hcl, hw i hi, nI_1, sp_sm]
    have e : (if (0 : Int32) < sp_ov (f i) then sp_ov (f i) else 0) = nI (sp_gv (f i)) := by
      cases q : f i with
      | none => rfl
      | some v => exact mt_mxn (by have := hb i hi v q; omega)
    rw [e, nI_add]
  · rintro x y ⟨rfl, rfl⟩ k
    rw [hv.1.1, if_pos (nI_le (Nat.le_refl _) (by omega))]
theorem xn_cheap1 (hv : cv 13 M A) (h7 : A 6 0 ≤ 7) (hw : ∀ t, t < A 6 0 → M 136 t = sp_ov (f t)) (hb : ∀ t, t < A 6 0 → ∀ v, f t = some v → v ≤ 1100) : f_X8_cheapestThing M = some (sp_ov (sp_chT f (A 6 0))) := by
  unfold f_X8_cheapestThing
  refine mt_lz2 (P := fun r => r = some (sp_ov (sp_chT f (A 6 0)))) (fun i x y => x = sp_ov (sp_chT f i) ∧ y = nI i) (A 6 0) (by omega) ?_ ?_ ⟨rfl, rfl⟩
  · rintro i hi x y ⟨rfl, rfl⟩ k
    left
    have hin : vp_in (nI i) 7 := vp_in_nI (by omega) (by omega)
    have hcl : (nI i).toNatClampNeg = i := nI_clamp (by omega)
    refine ⟨_, _, ⟨rfl, rfl⟩, ?_⟩
    rw [hv.1.1, if_neg (nI_ge hi (by omega))]
    simp only [mt_ltE, mt_ci_t hin, hcl, hw i hi, nI_1]
    simp only [sp_chT]
    cases q : f i with
    | none => rw [if_pos (show sp_ov none = -9 from rfl)]
    | some v =>
      have hv1 := hb i hi v q
      rw [if_neg (sp_ovN (by omega))]
      cases q2 : sp_chT f i with
      | none => rw [if_pos (show sp_ov none = -9 from rfl)]; rfl
      | some p =>
        have hp := sp_chT_lt q2
        have hin2 : vp_in (sp_ov (some p)) 7 := vp_in_nI (by omega) (by omega)
        have hcl2 : (sp_ov (some p)).toNatClampNeg = p := nI_clamp (by omega)
        rw [if_neg (sp_ovN (by omega))]
        simp only [mt_ci_t hin2, hcl2, hw p (by omega)]
        cases q3 : f p with
        | none => exact absurd q3 hp.2
        | some w =>
          have hw1 := hb p (by omega) w q3
          by_cases z : w ≤ v
          · rw [if_pos (show sp_ov (some w) ≤ sp_ov (some v) from nI_le z (by omega)), if_pos (show sp_gv (some w) ≤ v from z)]
          · rw [if_neg (show ¬ sp_ov (some w) ≤ sp_ov (some v) from nI_ge (by omega) (by omega)), if_neg (show ¬ sp_gv (some w) ≤ v from z)]
            rfl
  · rintro x y ⟨rfl, rfl⟩ k
    rw [hv.1.1, if_pos (nI_le (Nat.le_refl _) (by omega))]
theorem xn_fewest (hv : cv 13 M A) (h7 : A 6 0 ≤ 7) (hw : ∀ t, t < A 6 0 → M 136 t = sp_ov (f t)) (hb : ∀ t, t < A 6 0 → ∀ v, f t = some v → v ≤ 1100) {n : Nat} (hn : n ≤ 7) : ∃ M', f_X8_fewestPence (nI n) M = some (sp_ov (sp_fv f (A 6 0) n), M') ∧ xn M M' := by
  have key : ∃ M', f_X8_fewestPence (nI n) M = some (sp_ov (sp_fv f (A 6 0) n), M') := by
    unfold f_X8_fewestPence
    refine mt_lz3 (P := fun r => ∃ M', r = some (sp_ov (sp_fv f (A 6 0) n), M')) (fun i x y m => ∃ s g, sp_fw f (A 6 0) i = some (s, g) ∧ x = nI s ∧ y = nI i ∧ cv 13 m A ∧ (∀ t, t < A 6 0 → m 136 t = sp_ov (g t)) ∧ ∀ t, t < A 6 0 → ∀ v, g t = some v → v ≤ 1100) n (by omega) ?_ ?_ ⟨0, f, rfl, rfl, rfl, hv, hw, hb⟩
    · rintro i hi x y m ⟨s, g, e1, rfl, rfl, hm, hw, hb⟩ k
      rw [if_neg (nI_ge hi (by omega)), xn_cheap1 hm h7 hw hb, mt_b1E]
      cases q : sp_chT g (A 6 0) with
      | none =>
        right
        rw [if_pos (show sp_ov none = -9 from rfl)]
        have e2 : sp_fw f (A 6 0) (i + 1) = none := by simp only [sp_fw, e1, q]
        have e3 : sp_fv f (A 6 0) n = none := by unfold sp_fv; rw [sp_fw_none e2 n (by omega)]
        rw [e3]
        exact ⟨m, rfl⟩
      | some p =>
        left
        have hp := sp_chT_lt q
        have hin2 : vp_in (sp_ov (some p)) 7 := vp_in_nI (by omega) (by omega)
        have hcl2 : (sp_ov (some p)).toNatClampNeg = p := nI_clamp (by omega)
        have e2 : sp_fw f (A 6 0) (i + 1) = some (s + sp_gv (g p), sp_off g p) := by simp only [sp_fw, e1, q]
        have e4 : m 136 p = nI (sp_gv (g p)) := by
          rw [hw p hp.1]
          cases q3 : g p with
          | none => exact absurd q3 hp.2
          | some w => rfl
        refine ⟨nI (s + sp_gv (g p)), nI (i + 1), mt_wr m 136 p (-9), ⟨_, _, e2, rfl, rfl, ?_, ?_, ?_⟩, ?_⟩
        · exact cv_frame hm (fun id h1 h2 => mt_wr_ne (by omega))
        · intro t ht
          unfold sp_off
          by_cases z : t = p
          · subst z; rw [mt_wr_s, if_pos rfl]; rfl
          · rw [mt_wr_n z, if_neg z]; exact hw t ht
        · intro t ht v hv
          unfold sp_off at hv
          by_cases z : t = p
          · rw [if_pos z] at hv; cases hv
          · rw [if_neg z] at hv; exact hb t ht v hv
        · rw [if_neg (sp_ovN (by omega))]
          simp only [mt_ltE, mt_ci_t hin2, hcl2, e4, nI_add, nI_1]
    · rintro x y m ⟨s, g, e1, rfl, rfl, hm, hw, hb⟩ k
      rw [if_pos (nI_le (Nat.le_refl _) (by omega))]
      have e3 : sp_fv f (A 6 0) n = some s := by unfold sp_fv; rw [e1]
      rw [e3]
      exact ⟨m, rfl⟩
  obtain ⟨M', h1⟩ := key
  exact ⟨M', h1, fr_X8_fewestPence _ M h1⟩
end XN4

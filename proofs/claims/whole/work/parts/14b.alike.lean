/-! ALIKE: class and reference -/
def sp_al (A : hs_A) (a b : Nat) : Bool := decide (A 0 a = A 0 b) && decide (A 1 a - A 1 b + (A 1 b - A 1 a) ≤ 1)
theorem sp_al_s (A : hs_A) (a b : Nat) : sp_al A a b = sp_al A b a := by
  unfold sp_al
  rw [Nat.add_comm (A 1 a - A 1 b)]
  congr 1
  by_cases h : A 0 a = A 0 b
  · simp [h]
  · simp [h, Ne.symm h]
def sp_ti (A : hs_A) (a m : Nat) : Nat := sp_sm m (fun d => if sp_al A a (a + 1 + d) = true then 1 else 0)
def sp_to (A : hs_A) (n i : Nat) : Nat := sp_sm i (fun a => sp_ti A a (n - (a + 1)))
section XA
variable {M : mt_M} {A : hs_A} {t : Nat}
theorem xa_are {c : Nat} (hv : cv c M A) (hok : hs_ok A) {a b : Nat} (ha : a < A 6 0) (hb : b < A 6 0) : f_X0_areAlike c (nI a) (nI b) M = some (if sp_al A a b = true then 1 else 0) := by
  have h7 := hok.1
  have i1 : vp_in (nI a) 7 := vp_in_nI (by omega) (by omega)
  have c1 : (nI a).toNatClampNeg = a := nI_clamp (by omega)
  have i2 : vp_in (nI b) 7 := vp_in_nI (by omega) (by omega)
  have c2 : (nI b).toNatClampNeg = b := nI_clamp (by omega)
  obtain ⟨k1, f1, -⟩ := hv.2 a ha
  obtain ⟨k2, f2, -⟩ := hv.2 b hb
  obtain ⟨b1, b2, -⟩ := hok.2 a ha
  obtain ⟨b3, b4, -⟩ := hok.2 b hb
  simp only [f_X0_areAlike, mt_ci_t i1, mt_ci_t i2, c1, c2, k1, k2, f1, f2, mt_ltE, mt_abs (show A 1 a ≤ 999 by omega) (show A 1 b ≤ 999 by omega)]
  unfold sp_al
  by_cases q : A 0 a = A 0 b
  · rw [if_pos (by rw [q])]
    by_cases z : A 1 a - A 1 b + (A 1 b - A 1 a) ≤ 1
    · rw [if_neg (by rw [mi_1]; exact nI_nlt z (by omega)), if_pos (by simp [q, z])]
    · rw [if_pos (by rw [mi_1]; exact nI_lt (by omega) (by omega)), if_neg (by simp [z])]
  · rw [if_neg (fun z => q ((nI_eq (by omega) (by omega)).mp z)), if_neg (by simp [q])]
theorem xb_are (hv : rm M A) (hok : hs_ok A) {a b : Nat} (ha : a < A 6 0) (hb : b < A 6 0) : f_X12_areAlike (nI a) (nI b) M = some (if sp_al A a b = true then 1 else 0) := by
  have h7 := hok.1
  have i1 : vp_in (nI a) 7 := vp_in_nI (by omega) (by omega)
  have c1 : (nI a).toNatClampNeg = a := nI_clamp (by omega)
  have i2 : vp_in (nI b) 7 := vp_in_nI (by omega) (by omega)
  have c2 : (nI b).toNatClampNeg = b := nI_clamp (by omega)
  obtain ⟨k1, f1, -⟩ := hv.2 a ha (by omega)
  obtain ⟨k2, f2, -⟩ := hv.2 b hb (by omega)
  obtain ⟨b1, b2, -⟩ := hok.2 a ha
  obtain ⟨b3, b4, -⟩ := hok.2 b hb
  have ei : f_X12_isIn (nI (A 1 a) - nI (A 1 b)) (-1) 1 = some (if A 1 a - A 1 b + (A 1 b - A 1 a) ≤ 1 then 1 else 0) := mt_isIn (show A 1 a ≤ 999 by omega) (show A 1 b ≤ 999 by omega) (a := 1) (by decide)
  simp only [f_X12_areAlike, mt_ci_t i1, mt_ci_t i2, c1, c2, k1, k2, f1, f2, ei, mt_b1E]
  unfold sp_al
  by_cases q : A 0 a = A 0 b
  · rw [if_pos (by rw [q])]
    by_cases z : A 1 a - A 1 b + (A 1 b - A 1 a) ≤ 1
    · rw [if_pos z, if_neg (by decide), if_pos (by simp [q, z])]
    · rw [if_neg z, if_pos rfl, if_neg (by simp [z])]
  · rw [if_neg (fun z => q ((nI_eq (by omega) (by omega)).mp z)), if_neg (by simp [q])]
/-- twos, the class -/
theorem xa_twos (hv : cv 13 M A) (hok : hs_ok A) : f_X0_alikeTwos 13 M = some (nI (sp_to A (A 6 0) (A 6 0))) := by
  have h7 := hok.1
  unfold f_X0_alikeTwos
  refine mt_lz2 (P := fun r => r = some (nI (sp_to A (A 6 0) (A 6 0)))) (fun i x y => x = nI (sp_to A (A 6 0) i) ∧ y = nI i) (A 6 0) (by omega) ?_ ?_ ⟨rfl, rfl⟩
  · rintro i hi x y ⟨rfl, rfl⟩ k
    left
    refine ⟨_, _, ⟨rfl, rfl⟩, ?_⟩
    rw [hv.1.1, if_neg (nI_ge hi (by omega)), mt_ltE, nI_1]
    refine mt_lz2 (P := fun r => r = k (nI (sp_to A (A 6 0) (i + 1))) (nI (i + 1))) (fun d x y => x = nI (sp_to A (A 6 0) i + sp_ti A i d) ∧ y = nI (i + 1 + d)) (A 6 0 - (i + 1)) (by omega) ?_ ?_ ⟨rfl, rfl⟩
    · rintro d hd x y ⟨rfl, rfl⟩ k2
      left
      refine ⟨_, _, ⟨rfl, rfl⟩, ?_⟩
      rw [if_neg (nI_ge (show i + 1 + d < A 6 0 by omega) (by omega)), xa_are hv hok hi (show i + 1 + d < A 6 0 by omega)]
      have es : sp_ti A i (d + 1) = sp_ti A i d + (if sp_al A i (i + 1 + d) = true then 1 else 0) := rfl
      simp only [mt_b1E, mt_ltE, es, nI_1]
      by_cases q : sp_al A i (i + 1 + d) = true
      · rw [if_pos q, if_pos q, if_neg (by decide)]; rfl
      · rw [if_neg q, if_neg q, if_pos rfl, mi_0, nI_add]; rfl
    · rintro x y ⟨rfl, rfl⟩ k2
      rw [if_pos (nI_le (show A 6 0 ≤ i + 1 + (A 6 0 - (i + 1)) by omega) (by omega))]
      rfl
  · rintro x y ⟨rfl, rfl⟩ k
    rw [hv.1.1, if_pos (nI_le (Nat.le_refl _) (by omega))]
/-- one group becomes another -/
theorem xa_hang {c n p q : Nat} {g : Nat → Nat} (h8 : M c 8 = nI n) (hn : n ≤ 7) (hg : ∀ x, x < n → M (c + 7) x = nI (g x)) (hb : ∀ x, x < n → g x < 8) (hq : q < 8) : ∃ M', f_X0_hangTogether c (nI p) (nI q) M = some M' ∧ (∀ x, x < n → M' (c + 7) x = nI (if g x = q then p else g x)) ∧ ∀ id, id ≠ c + 7 → M' id = M id := by
  unfold f_X0_hangTogether
  refine mt_lz2 (P := fun (r : Option mt_M) => ∃ M' : mt_M, r = some M' ∧ (∀ x, x < n → M' (c + 7) x = nI (if g x = q then p else g x)) ∧ ∀ id, id ≠ c + 7 → M' id = M id) (fun i (y : Int32) (m : mt_M) => y = nI i ∧ (∀ x, x < n → m (c + 7) x = nI (if x < i ∧ g x = q then p else g x)) ∧ ∀ id, id ≠ c + 7 → m id = M id) n (by omega) ?_ ?_ ⟨rfl, fun x hx => by rw [if_neg (fun z => by omega)]; exact hg x hx, fun _ _ => rfl⟩
  · rintro i hi y m ⟨rfl, hm, hf⟩ k
    left
    have i1 : vp_in (nI i) 7 := vp_in_nI (by omega) (by omega)
    have c1 : (nI i).toNatClampNeg = i := nI_clamp (by omega)
    have e8 : m c 8 = nI n := by rw [hf c (by omega)]; exact h8
    have ei : m (c + 7) i = nI (g i) := by rw [hm i hi, if_neg (fun z => by omega)]
    rw [e8, if_neg (nI_ge hi (by omega))]
    simp only [mt_ci_t i1, mt_ltE, c1, ei, nI_1]
    by_cases z : g i = q
    · rw [if_pos (by rw [z])]
      refine ⟨_, _, ⟨rfl, fun x hx => ?_, fun id hid => ?_⟩, rfl⟩
      · by_cases w : x = i
        · subst w; rw [mt_wr_s, if_pos ⟨by omega, z⟩]
        · rw [mt_wr_n w, hm x hx]
          by_cases v : x < i ∧ g x = q
          · rw [if_pos v, if_pos ⟨by omega, v.2⟩]
          · rw [if_neg v, if_neg (fun u => v ⟨by omega, u.2⟩)]
      · rw [mt_wr_ne hid]; exact hf id hid
    · rw [if_neg (fun w => z ((nI_eq (by have := hb i hi; omega) (by omega)).mp w))]
      refine ⟨_, _, ⟨rfl, fun x hx => ?_, hf⟩, rfl⟩
      rw [hm x hx]
      by_cases v : x < i ∧ g x = q
      · rw [if_pos v, if_pos ⟨by omega, v.2⟩]
      · rw [if_neg v, if_neg (fun u => by
          rcases (show x < i ∨ x = i by omega) with w | w
          · exact v ⟨w, u.2⟩
          · subst w; exact z u.2)]
  · rintro y m ⟨rfl, hm, hf⟩ k
    rw [hf c (by omega), h8, if_pos (nI_le (Nat.le_refl _) (by omega))]
    refine ⟨m, rfl, fun x hx => ?_, hf⟩
    rw [hm x hx]
    by_cases v : g x = q
    · rw [if_pos ⟨hx, v⟩, if_pos v]
    · rw [if_neg (fun u => v u.2), if_neg v]
/-- the links made so far, all twos of things below i and those of i with the first d behind it being seen -/
def xa_J (M : mt_M) (A : hs_A) (i d : Nat) (x : Int32) (m : mt_M) : Prop := (∃ (g : Nat → Nat) (lk : Nat), x = nI lk ∧ lk + al_ct g (A 6 0) = A 6 0 ∧ (∀ x, x < A 6 0 → m 20 x = nI (g x)) ∧ (∀ x, x < A 6 0 → g x < 8) ∧ (∀ x y, x < A 6 0 → y < A 6 0 → g x = g y → al_R (A 6 0) (sp_al A) x y) ∧ ∀ a b, a < b → b < A 6 0 → (a < i ∨ (a = i ∧ b < i + 1 + d)) → sp_al A a b = true → g a = g b) ∧ ∀ id, id ≠ 20 → m id = M id
theorem xa_links (hv : cv 13 M A) (hok : hs_ok A) : ∃ M', f_X0_alikeLinks 13 M = some (nI (A 6 0 - al_gr (A 6 0) (sp_al A)), M') ∧ ∀ id, id ≠ 20 → M' id = M id := by
  have h7 := hok.1
  unfold f_X0_alikeLinks
  refine mt_lz2 (P := fun (r : Option (Int32 × mt_M)) => ∃ M' : mt_M, r = some (nI (A 6 0 - al_gr (A 6 0) (sp_al A)), M') ∧ ∀ id, id ≠ 20 → M' id = M id) (fun i (y : Int32) (m : mt_M) => y = nI i ∧ (∀ x, x < i → m 20 x = nI x) ∧ ∀ id, id ≠ 20 → m id = M id) (A 6 0) (by omega) ?_ ?_ ⟨rfl, fun x hx => by omega, fun _ _ => rfl⟩
  · rintro i hi y m ⟨rfl, hm, hf⟩ k
    left
    have i1 : vp_in (nI i) 7 := vp_in_nI (by omega) (by omega)
    have c1 : (nI i).toNatClampNeg = i := nI_clamp (by omega)
    have e8 : m 13 8 = nI (A 6 0) := by rw [hf 13 (by omega)]; exact hv.1.1
    rw [e8, if_neg (nI_ge hi (by omega))]
    simp only [mt_ci_t i1, mt_ltE, c1, nI_1]
    refine ⟨_, _, ⟨rfl, fun x hx => ?_, fun id hid => ?_⟩, rfl⟩
    · by_cases w : x = i
      · subst w; exact mt_wr_s _ _ _ _
      · exact (mt_wr_n w).trans (hm x (by omega))
    · exact (mt_wr_ne hid).trans (hf id hid)
  · rintro y m ⟨rfl, hm, hf⟩ k
    have e8 : m 13 8 = nI (A 6 0) := by rw [hf 13 (by omega)]; exact hv.1.1
    rw [e8, if_pos (nI_le (Nat.le_refl _) (by omega))]
    refine mt_lz3 (P := fun (r : Option (Int32 × mt_M)) => ∃ M' : mt_M, r = some (nI (A 6 0 - al_gr (A 6 0) (sp_al A)), M') ∧ ∀ id, id ≠ 20 → M' id = M id) (fun i x y m => y = nI i ∧ xa_J M A i 0 x m) (A 6 0) (by omega) ?_ ?_ ⟨rfl, ⟨fun x => x, 0, rfl, by rw [al_ct_id]; omega, hm, fun x hx => by show x < 8; omega, fun x y _ _ h => by have : x = y := h; subst this; exact al_R_rfl _ _ _, fun a b _ _ h => by omega⟩, hf⟩
    · rintro i hi x y m ⟨rfl, hJ⟩ k2
      left
      have e8 : m 13 8 = nI (A 6 0) := by rw [hJ.2 13 (by omega)]; exact hv.1.1
      rw [e8, if_neg (nI_ge hi (by omega)), mt_ltE, nI_1]
      refine mt_lz3 (P := fun r => ∃ x' y' m', (y' = nI (i + 1) ∧ xa_J M A (i + 1) 0 x' m') ∧ r = k2 x' y' m') (fun d x y m => y = nI (i + 1 + d) ∧ xa_J M A i d x m) (A 6 0 - (i + 1)) (by omega) ?_ ?_ ⟨rfl, hJ⟩
      · rintro d hd x y m ⟨rfl, hJ⟩ k3
        left
        have hj : i + 1 + d < A 6 0 := by omega
        have hcv : cv 13 m A := cv_frame hv (fun id _ _ => hJ.2 id (by omega))
        have i1 : vp_in (nI i) 7 := vp_in_nI (by omega) (by omega)
        have c1 : (nI i).toNatClampNeg = i := nI_clamp (by omega)
        have i2 : vp_in (nI (i + 1 + d)) 7 := vp_in_nI (by omega) (by omega)
        have c2 : (nI (i + 1 + d)).toNatClampNeg = i + 1 + d := nI_clamp (by omega)
        obtain ⟨⟨g, lk, rfl, g1, g2, g3, g4, g5⟩, hf⟩ := hJ
        rw [hcv.1.1, if_neg (nI_ge hj (by omega)), xa_are hcv hok hi hj, mt_b1E, mt_ltE]
        simp only [mt_ltE, nI_1]
        by_cases q : sp_al A i (i + 1 + d) = true
        · rw [if_neg (by rw [if_pos q]; decide)]
          simp only [mt_ci_t i1, mt_ci_t i2, c1, c2, g2 i hi, g2 _ hj]
          by_cases z : g i = g (i + 1 + d)
          · rw [if_pos (by rw [z])]
            refine ⟨_, _, _, ⟨rfl, ⟨g, lk, rfl, g1, g2, g3, g4, fun a b hab hb hc hal => ?_⟩, hf⟩, rfl⟩
            by_cases w : a = i ∧ b = i + 1 + d
            · obtain ⟨rfl, rfl⟩ := w; exact z
            · exact g5 a b hab hb (by omega) hal
          · rw [if_neg (fun w => z ((nI_eq (by have := g3 i hi; omega) (by have := g3 _ hj; omega)).mp w))]
            obtain ⟨N, n1, n2, n3⟩ := xa_hang (M := m) (c := 13) (n := A 6 0) (p := g i) (q := g (i + 1 + d)) (g := g) hcv.1.1 h7 g2 g3 (g3 _ hj)
            simp only [n1, mt_b1E]
            have hm := al_merge hi hj z
            refine ⟨_, _, _, ⟨rfl, ⟨fun x => if g x = g (i + 1 + d) then g i else g x, lk + 1, rfl, by omega, n2, fun x hx => ?_, fun x y hx hy hxy => ?_, fun a b hab hb hc hal => ?_⟩, fun id hid => (n3 id hid).trans (hf id hid)⟩, rfl⟩
            · show (if g x = g (i + 1 + d) then g i else g x) < 8
              split
              · exact g3 i hi
              · exact g3 x hx
            · have hxy : (if g x = g (i + 1 + d) then g i else g x) = (if g y = g (i + 1 + d) then g i else g y) := hxy
              have hij := al_R_edge hi hj q
              by_cases u : g x = g (i + 1 + d)
              · by_cases v : g y = g (i + 1 + d)
                · exact g4 x y hx hy (u.trans v.symm)
                · rw [if_pos u, if_neg v] at hxy
                  exact al_R_trans (g4 x _ hx hj u) (al_R_trans (al_R_symm hij) (g4 i y hi hy hxy))
              · by_cases v : g y = g (i + 1 + d)
                · rw [if_neg u, if_pos v] at hxy
                  exact al_R_trans (g4 x i hx hi hxy) (al_R_trans hij (g4 _ y hj hy v.symm))
                · rw [if_neg u, if_neg v] at hxy
                  exact g4 x y hx hy hxy
            · show (if g a = g (i + 1 + d) then g i else g a) = (if g b = g (i + 1 + d) then g i else g b)
              by_cases w : a = i ∧ b = i + 1 + d
              · obtain ⟨rfl, rfl⟩ := w
                rw [if_neg z, if_pos rfl]
              · rw [g5 a b hab hb (by omega) hal]
        · rw [if_pos (by rw [if_neg q])]
          refine ⟨_, _, _, ⟨rfl, ⟨g, lk, rfl, g1, g2, g3, g4, fun a b hab hb hc hal => ?_⟩, hf⟩, rfl⟩
          by_cases w : a = i ∧ b = i + 1 + d
          · obtain ⟨rfl, rfl⟩ := w; exact absurd hal q
          · exact g5 a b hab hb (by omega) hal
      · rintro x y m ⟨rfl, hJ⟩ k3
        have e8 : m 13 8 = nI (A 6 0) := by rw [hJ.2 13 (by omega)]; exact hv.1.1
        rw [e8, if_pos (nI_le (show A 6 0 ≤ i + 1 + (A 6 0 - (i + 1)) by omega) (by omega)), mt_ltE]
        obtain ⟨⟨g, lk, rfl, g1, g2, g3, g4, g5⟩, hf⟩ := hJ
        exact ⟨nI lk, nI (i + 1), m, ⟨rfl, ⟨g, lk, rfl, g1, g2, g3, g4, fun a b hab hb hc hal => g5 a b hab hb (by omega) hal⟩, hf⟩, rfl⟩
    · rintro x y m ⟨rfl, hJ⟩ k2
      have e8 : m 13 8 = nI (A 6 0) := by rw [hJ.2 13 (by omega)]; exact hv.1.1
      rw [e8, if_pos (nI_le (Nat.le_refl _) (by omega))]
      obtain ⟨⟨g, lk, rfl, g1, g2, g3, g4, g5⟩, hf⟩ := hJ
      have hgr := al_gr_ct (al := sp_al A) g4 (fun a b ha hb hal => by
        rcases Nat.lt_trichotomy a b with w | w | w
        · exact g5 a b w hb (by omega) hal
        · rw [w]
        · exact (g5 b a w ha (by omega) (by rw [sp_al_s]; exact hal)).symm)
      refine ⟨m, ?_, hf⟩
      rw [← hgr]
      rw [show A 6 0 - al_ct g (A 6 0) = lk by omega]
/-- a group, the reference -/
theorem xb_group (hv : rm M A) (hok : hs_ok A) {a : Nat} (ha : a < A 6 0) : f_X12_groupOf (nI a) M = some (nI (al_gp (A 6 0) (sp_al A) a (A 6 0))) := by
  have h7 := hok.1
  have hn2 : A 6 0 * A 6 0 ≤ 49 := Nat.mul_le_mul h7 h7
  have hpw := sp_pw (A 6 0) h7
  unfold f_X12_groupOf
  rw [nx_shl (show a < 31 by omega), mt_ltE]
  refine mt_lz2 (P := fun r => r = some (nI (al_gp (A 6 0) (sp_al A) a (A 6 0)))) (fun j x y => x = nI (al_gp (A 6 0) (sp_al A) a j) ∧ y = nI j) (A 6 0) (by omega) ?_ ?_ ⟨rfl, rfl⟩
  · rintro j hj x y ⟨rfl, rfl⟩ k
    left
    refine ⟨_, _, ⟨rfl, rfl⟩, ?_⟩
    rw [hv.1.1, if_neg (nI_ge hj (by omega)), pk_mul]
    refine mt_lz2 (P := fun r => r = k (nI (al_gp (A 6 0) (sp_al A) a (j + 1))) (nI (j + 1))) (fun i x y => x = nI (al_rd (A 6 0) (sp_al A) (al_gp (A 6 0) (sp_al A) a j) i) ∧ y = nI i) (A 6 0 * A 6 0) (by omega) ?_ ?_ ⟨rfl, rfl⟩
    · rintro i hi x y ⟨rfl, rfl⟩ k2
      left
      have hn : 0 < A 6 0 := by omega
      have hd : i / A 6 0 < A 6 0 := Nat.div_lt_of_lt_mul hi
      have hm : i % A 6 0 < A 6 0 := Nat.mod_lt _ hn
      have hlt := al_rd_lt (al := sp_al A) ha j i (by omega)
      have er : nI i - nI (i / A 6 0) * nI (A 6 0) = nI (i % A 6 0) := by
        have h := pk_rem (a := i) (d := A 6 0) (by omega) hn (by omega)
        rw [pk_div (by omega) hn (by omega)] at h
        exact h
      refine ⟨_, _, ⟨rfl, rfl⟩, ?_⟩
      rw [if_neg (nI_ge hi (by omega)), mt_ck_t (nI_ne0 hn (by omega)), pk_div (by omega) hn (by omega), xm_has (by omega) (by omega), mt_b1E]
      simp only [mt_ltE, nI_1, al_rd]
      generalize al_rd (A 6 0) (sp_al A) (al_gp (A 6 0) (sp_al A) a j) i = s at hlt ⊢
      unfold al_st
      by_cases q : s.testBit (i / A 6 0) = true
      · rw [if_neg (by rw [if_pos q]; decide), mt_ck_t (nI_ne0 hn (by omega)), mt_ck_t (nI_ne0 hn (by omega)), er, xb_are hv hok hd hm, mt_b1E]
        by_cases z : sp_al A (i / A 6 0) (i % A 6 0) = true
        · rw [if_neg (by rw [if_pos z]; decide), mt_ck_t (nI_ne0 hn (by omega)), nx_shl (show i % A 6 0 < 31 by omega), nx_or, if_pos ⟨q, z⟩]
        · rw [if_pos (by rw [if_neg z]), if_neg (fun w => z w.2), mi_0, nx_or, Nat.or_zero]
      · rw [if_pos (by rw [if_neg q]), if_neg (fun w => q w.1), mi_0, nx_or, Nat.or_zero]
    · rintro x y ⟨rfl, rfl⟩ k2
      rw [if_pos (nI_le (Nat.le_refl _) (by omega)), mt_ltE, nI_1]
      rfl
  · rintro x y ⟨rfl, rfl⟩ k
    rw [hv.1.1, if_pos (nI_le (Nat.le_refl _) (by omega))]
theorem al_gr_le (n : Nat) (al : Nat → Nat → Bool) (i : Nat) : sp_sm i (al_gd n al) ≤ i := by
  have h := sp_sm_le (n := i) (b := 1) (f := al_gd n al) (fun x _ => by
    by_cases q : ∀ y, y < x → ¬ al_R n al y x
    · rw [al_gd_t q]; exact Nat.le_refl _
    · rw [al_gd_f q]; exact Nat.zero_le _)
  omega
theorem xb_alike (hv : rm M A) (hok : hs_ok A) {w : Int32} (hw : w = 0 ∨ w = 1) : f_X12_alike w M = some (if w = 0 then nI (sp_to A (A 6 0) (A 6 0)) else nI (A 6 0 - al_gr (A 6 0) (sp_al A)), M) := by
  have h7 := hok.1
  have hpw := sp_pw (A 6 0) h7
  have ei : f_X12_isIn w 0 1 = some 1 := by rcases hw with rfl | rfl <;> rfl
  simp only [f_X12_alike, ei, mt_b1E, mt_10, if_false]
  refine mt_lz3 (P := fun r => r = some (if w = 0 then nI (sp_to A (A 6 0) (A 6 0)) else nI (A 6 0 - al_gr (A 6 0) (sp_al A)), M)) (fun i x y z => x = nI (sp_to A (A 6 0) i) ∧ y = nI (sp_sm i (al_gd (A 6 0) (sp_al A))) ∧ z = nI i) (A 6 0) (by omega) ?_ ?_ ⟨rfl, rfl, rfl⟩
  · rintro i hi x y z ⟨rfl, rfl, rfl⟩ k
    left
    refine ⟨_, _, _, ⟨rfl, rfl, rfl⟩, ?_⟩
    have hp2 : 1 ≤ 2 ^ i := Nat.one_le_two_pow
    have hp3 : 2 ^ i < 2 ^ A 6 0 := Nat.pow_lt_pow_right (by decide) hi
    have hlt := al_gp_lt (al := sp_al A) hi (A 6 0)
    have e1 : nI (2 ^ i) - (1 : Int32) = nI (2 ^ i - 1) := pk_sub (b := 1) hp2
    rw [hv.1.1, if_neg (nI_ge hi (by omega)), xb_group hv hok hi, mt_b1E]
    simp only [nx_shl (show i < 31 by omega), e1, nx_and, mt_ltE, nI_1]
    have el := al_low (sp_al_s A) hi
    have hle : al_gp (A 6 0) (sp_al A) i (A 6 0) &&& (2 ^ i - 1) < 2 ^ A 6 0 := sp_and_lt hlt
    have main : ∀ v : Int32, v = nI (sp_sm (i + 1) (al_gd (A 6 0) (sp_al A))) → mt_lp2 (fun k20 (x18 : Int32) (x19 : Int32) => if nI (A 6 0) ≤ x19 then k x18 v (nI (i + 1)) else mt_b1 (f_X12_areAlike (nI i) x19 M) (fun (r25 : Int32) => if r25 = 0 then k20 (x18 + (0 : Int32)) (x19 + (1 : Int32)) else k20 (x18 + (1 : Int32)) (x19 + (1 : Int32)))) mt_FU (nI (sp_to A (A 6 0) i)) (nI (i + 1)) = k (nI (sp_to A (A 6 0) (i + 1))) (nI (sp_sm (i + 1) (al_gd (A 6 0) (sp_al A)))) (nI (i + 1)) := by
      rintro v rfl
      refine mt_lz2 (P := fun r => r = k (nI (sp_to A (A 6 0) (i + 1))) (nI (sp_sm (i + 1) (al_gd (A 6 0) (sp_al A)))) (nI (i + 1))) (fun d x y => x = nI (sp_to A (A 6 0) i + sp_ti A i d) ∧ y = nI (i + 1 + d)) (A 6 0 - (i + 1)) (by omega) ?_ ?_ ⟨rfl, rfl⟩
      · rintro d hd x y ⟨rfl, rfl⟩ k2
        left
        refine ⟨_, _, ⟨rfl, rfl⟩, ?_⟩
        rw [if_neg (nI_ge (show i + 1 + d < A 6 0 by omega) (by omega)), xb_are hv hok hi (show i + 1 + d < A 6 0 by omega), mt_b1E]
        have es : sp_ti A i (d + 1) = sp_ti A i d + (if sp_al A i (i + 1 + d) = true then 1 else 0) := rfl
        rw [es]
        by_cases q : sp_al A i (i + 1 + d) = true
        · rw [if_neg (by rw [if_pos q]; decide), if_pos q, nI_1, nI_1]; rfl
        · rw [if_pos (by rw [if_neg q]), if_neg q, mi_0, nI_add, nI_1]; rfl
      · rintro x y ⟨rfl, rfl⟩ k2
        rw [if_pos (nI_le (show A 6 0 ≤ i + 1 + (A 6 0 - (i + 1)) by omega) (by omega))]
        rfl
    by_cases q : al_gp (A 6 0) (sp_al A) i (A 6 0) &&& (2 ^ i - 1) = 0
    · rw [if_pos q] at el
      rw [if_pos (show nI (al_gp (A 6 0) (sp_al A) i (A 6 0) &&& (2 ^ i - 1)) = 0 by rw [q]; rfl)]
      exact main _ (by simp only [sp_sm]; rw [← el])
    · rw [if_neg q] at el
      rw [if_neg (show ¬ nI (al_gp (A 6 0) (sp_al A) i (A 6 0) &&& (2 ^ i - 1)) = 0 from nI_ne0 (by omega) (by omega))]
      exact main _ (by simp only [sp_sm]; rw [← el]; exact nI_add _ 0)
  · rintro x y z ⟨rfl, rfl, rfl⟩ k
    have hle := al_gr_le (A 6 0) (sp_al A) (A 6 0)
    rw [hv.1.1, if_pos (nI_le (Nat.le_refl _) (by omega))]
    rcases hw with rfl | rfl
    · rfl
    · rw [if_neg (by decide), if_neg (by decide), pk_sub hle]
      rfl
/-- alike, the class -/
theorem xa_alike (hv : cv 13 M A) (hok : hs_ok A) {w : Int32} (hw : w = 0 ∨ w = 1) : ∃ M', f_X11_alike w M = some (if w = 0 then nI (sp_to A (A 6 0) (A 6 0)) else nI (A 6 0 - al_gr (A 6 0) (sp_al A)), M') ∧ ∀ id, id ≠ 20 → M' id = M id := by
  have ei : f_X11_isOneOf w 1 = some 1 := by rcases hw with rfl | rfl <;> rfl
  simp only [f_X11_alike, ei, mt_b1E, mt_10, if_false]
  rcases hw with rfl | rfl
  · rw [if_pos rfl, xa_twos hv hok, mt_b1E]
    exact ⟨M, rfl, fun _ _ => rfl⟩
  · obtain ⟨M', h1, h2⟩ := xa_links hv hok
    rw [if_neg (by decide), h1, mt_b2E]
    exact ⟨M', rfl, h2⟩
end XA

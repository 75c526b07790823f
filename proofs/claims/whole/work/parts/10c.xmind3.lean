/-! ORDERS, THE CHEAPEST, INTERVALS, TURNS, MONTH, SWAP, LOTS: the class -/
section XN3
variable {M : mt_M} {A : hs_A} {t : Nat}
/-- what was weighed -/
def xw (M : mt_M) (A : hs_A) (i : Nat) : Prop := ∀ t, t < i → M 134 t = nI (sp_lN (A 0 t) (A 1 t) (A 2 t) 7 (A 3 t)) ∧ M 135 t = nI (sp_lN (A 0 t) (A 1 t) (A 2 t) 7 (sp_w A t 1))
theorem xn_of2 (hv : cv 13 M A) (hok : hs_ok A) (ht : t < A 6 0) {s n : Nat} (hs : s < 2 ^ 31) (hn : n ≤ 1000) : ∃ M', f_X8_liveDaysOf (nI t) (nI s) (nI n) M = some M' ∧ M' 137 10 = nI (sp_lN (A 0 t) (A 1 t) (A 2 t) n (min 99 s)) ∧ ∀ id, (id < 137 ∨ 145 ≤ id) → M' id = M id := by
  obtain ⟨M', h1, h2, -, -, h5⟩ := xn_of hv hok ht hs hn
  refine ⟨M', h1, h2, fun id hid => ?_⟩
  have hb : f_X8_liveDaysOf (nI t) (nI s) (nI n) M = some M' := h1
  unfold f_X8_liveDaysOf at hb
  refine mt_b1I hb (fun M2 g2 hb => ?_)
  refine mt_b1I hb (fun M4 g4 hb => ?_)
  have e2 : M2 id = M id := by
    unfold f_X8_begin at g2
    refine mt_b1I g2 (fun N1 q1 g2 => ?_)
    refine mt_b1I g2 (fun N2 q2 g2 => ?_)
    have i1 := mt_so1 g2
    subst i1
    rw [fr_X0_forgetTallies _ _ q2 id (by omega), fr_X0_become _ _ _ q1 id (by omega)]
  have e4 : M4 id = M2 id := fr_X0_putStock _ _ _ _ g4 id (by omega)
  have e5 : M' id = M4 id := by
    refine mt_lpI2 hb (fun (_ : Int32) (m : mt_M) => m id = M4 id → M' id = M4 id) ?_ rfl
    intro k ih x m hf hm
    by_cases c : nI n ≤ x
    · have hf := mt_ifT c hf
      have i1 := mt_so1 hf
      subst i1
      exact hm
    · have hf := mt_ifF c hf
      refine mt_b2I hf (fun r N g hf => ?_)
      exact ih _ _ hf ((fr_X0_liveDayOf _ _ _ g id (by omega)).trans hm)
  rw [e5, e4, e2]
theorem xn_weigh (hv : cv 13 M A) (hok : hs_ok A) : ∃ M', f_X8_weighPacks M = some M' ∧ xw M' A (A 6 0) ∧ xn M M' := by
  have hn := hok.1
  have key : ∃ M', f_X8_weighPacks M = some M' ∧ xw M' A (A 6 0) := by
    unfold f_X8_weighPacks
    refine mt_lz2 (P := fun r => ∃ M', r = some M' ∧ xw M' A (A 6 0)) (fun i x m => x = nI i ∧ xn M m ∧ xw m A i) (A 6 0) (by omega) ?_ ?_ ⟨rfl, xn.rfl' M, fun t ht => absurd ht (by omega)⟩
    · rintro i hi x m ⟨rfl, hm, hw⟩ k
      left
      have hvm := hm.cv hv
      have bs := (hok.2 i hi).2.2.2
      have bpk := sp_pk_le (A 0 i) (by have := (hok.2 i hi).1; omega)
      have hin : vp_in (nI i) 7 := vp_in_nI (by omega) (by omega)
      have hcl : (nI i).toNatClampNeg = i := nI_clamp (by omega)
      obtain ⟨M1, h1, l1, f1⟩ := xn_of2 hvm hok hi (s := A 3 i + 0 * sp_pk (A 0 i)) (n := 7) (by omega) (by decide)
      have f1' : xn m (mt_wr M1 134 i (M1 137 10)) := fun id hid => by rw [mt_wr_ne (by omega)]; exact f1 id (by omega)
      have hv1 := f1'.cv hvm
      obtain ⟨M2, h2, l2, f2⟩ := xn_of2 hv1 hok hi (s := A 3 i + 1 * sp_pk (A 0 i)) (n := 7) (by omega) (by decide)
      refine ⟨nI (i + 1), mt_wr M2 135 i (M2 137 10), ⟨rfl, ?_, ?_⟩, ?_⟩
      · exact (hm.trans f1').trans (fun id hid => by rw [mt_wr_ne (by omega)]; exact f2 id (by omega))
      · intro t ht
        rw [mt_wr_ne (show (134 : Nat) ≠ 135 by decide), f2 134 (by omega)]
        by_cases q : t = i
        · subst q
          refine ⟨?_, ?_⟩
          · rw [mt_wr_s, l1]
            congr 2
            omega
          · rw [mt_wr_s, l2]
            rfl
        · have h := hw t (by omega)
          rw [mt_wr_n q, mt_wr_n q, f1 134 (by omega), f2 135 (by omega), mt_wr_ne (show (135 : Nat) ≠ 134 by decide), f1 135 (by omega)]
          exact h
      · have h8 := hvm.1.1
        rw [h8, if_neg (nI_ge hi (by omega)), mi_0, xn_with hvm hok hi, mt_b1E, show (7 : Int32) = nI 7 from rfl, h1, mt_b1E, mt_ci_t hin, mt_ltE, hcl, mi_1, xn_with hv1 hok hi, mt_b1E, h2, mt_b1E, mt_ci_t hin, mt_ltE, mt_ltE, nI_add]
    · rintro x m ⟨rfl, hm, hw⟩ k
      have h8 := (hm.cv hv).1.1
      rw [h8, if_pos (nI_le (Nat.le_refl _) (by omega))]
      exact ⟨m, rfl, hw⟩
  obtain ⟨M', h1, h2⟩ := key
  exact ⟨M', h1, h2, fr_X8_weighPacks M h1⟩
theorem xn_lackSet (hv : cv 13 M A) (hok : hs_ok A) (hw : xw M A (A 6 0)) {s : Nat} (hs : s < 128) : f_X8_lackedBySet (nI s) M = some (nI (sp_ls A s)) := by
  have hn := hok.1
  unfold f_X8_lackedBySet
  refine mt_lz2 (P := fun r => r = some (nI (sp_ls A s))) (fun i x y => x = nI (sp_sm i (fun t => sp_lN (A 0 t) (A 1 t) (A 2 t) 7 (if s.testBit t then sp_w A t 1 else A 3 t))) ∧ y = nI i) (A 6 0) (by omega) ?_ ?_ ⟨rfl, rfl⟩
  · rintro i hi x y ⟨rfl, rfl⟩ k
    left
    have hin : vp_in (nI i) 7 := vp_in_nI (by omega) (by omega)
    have hcl : (nI i).toNatClampNeg = i := nI_clamp (by omega)
    obtain ⟨w1, w2⟩ := hw i hi
    have hb := mt_bit1 (w := s) (t := i) (by omega) (by omega)
    refine ⟨_, _, ⟨rfl, rfl⟩, ?_⟩
    rw [hv.1.1, if_neg (nI_ge hi (by omega))]
    simp only [mt_ltE, hb, mt_ci_t hin, hcl, w1, w2, nI_1, nI_add, sp_sm]
    by_cases q : s.testBit i = true
    · simp only [if_pos q]
    · simp only [if_neg q]
  · rintro x y ⟨rfl, rfl⟩ k
    rw [hv.1.1, if_pos (nI_le (Nat.le_refl _) (by omega))]
    rfl
theorem xn_priceSet (hv : cv 13 M A) (hok : hs_ok A) {s : Nat} (hs : s < 128) : f_X8_priceOfSet (nI s) M = some (nI (sp_ps A s)) := by
  have hn := hok.1
  unfold f_X8_priceOfSet
  refine mt_lz2 (P := fun r => r = some (nI (sp_ps A s))) (fun i x y => x = nI (sp_sm i (fun t => if s.testBit t then sp_pr (A 0 t) (A 1 t) else 0)) ∧ y = nI i) (A 6 0) (by omega) ?_ ?_ ⟨rfl, rfl⟩
  · rintro i hi x y ⟨rfl, rfl⟩ k
    left
    have hb := mt_bit1 (w := s) (t := i) (by omega) (by omega)
    have r4 := (xc_row hv hok hi).2.2.2.1
    refine ⟨_, _, ⟨rfl, rfl⟩, ?_⟩
    rw [hv.1.1, if_neg (nI_ge hi (by omega))]
    simp only [mt_ltE, hb, r4, mt_b1E, nI_1, mi_0, nI_add, sp_sm]
    by_cases q : s.testBit i = true
    · simp only [if_pos q]
    · simp only [if_neg q]
  · rintro x y ⟨rfl, rfl⟩ k
    rw [hv.1.1, if_pos (nI_le (Nat.le_refl _) (by omega))]
    rfl
theorem xc_bits (hv : cv 13 M A) (hok : hs_ok A) : f_X0_bitsOfAll 13 M = some (nI (2 ^ A 6 0 - 1)) := by
  have hn := hok.1
  have h : ∀ n, n < 8 → (((1 : Int32) <<< (nI n &&& 31)) - (1 : Int32)) = nI (2 ^ n - 1) := by decide +kernel
  simp only [f_X0_bitsOfAll, hv.1.1, h _ (show A 6 0 < 8 by omega)]
theorem sp_pw (n : Nat) (hn : n ≤ 7) : 2 ^ n ≤ 128 ∧ 1 ≤ 2 ^ n := by
  have h : ∀ n, n < 8 → 2 ^ n ≤ 128 ∧ 1 ≤ 2 ^ n := by decide
  exact h n (by omega)
theorem xn_bestSet (hv : cv 13 M A) (hok : hs_ok A) {v : Nat} (hvv : v < 2 ^ 31) : ∃ M', f_X8_bestSet (nI v) M = some (nI (sp_bs A v (2 ^ A 6 0 - 1)), M') ∧ xw M' A (A 6 0) ∧ xn M M' := by
  have hn := hok.1
  obtain ⟨p1, p2⟩ := sp_pw (A 6 0) hn
  obtain ⟨M1, h1, hw, hx⟩ := xn_weigh hv hok
  have hv1 := hx.cv hv
  refine ⟨M1, ?_, hw, hx⟩
  simp only [f_X8_bestSet, h1, mt_b1E]
  refine mt_lz2 (P := fun r => r = some (nI (sp_bs A v (2 ^ A 6 0 - 1)), M1)) (fun i x y => x = nI (sp_bs A v i) ∧ y = nI (i + 1)) (2 ^ A 6 0 - 1) (by omega) ?_ ?_ ⟨rfl, rfl⟩
  · rintro i hi x y ⟨rfl, rfl⟩ k
    left
    have hble := sp_bs_le A v i
    refine ⟨_, _, ⟨rfl, rfl⟩, ?_⟩
    rw [xc_bits hv1 hok, mt_b1E, if_neg (nI_nlt (show i + 1 ≤ 2 ^ A 6 0 - 1 by omega) (by omega))]
    simp only [xn_priceSet hv1 hok (show i + 1 < 128 by omega), mt_b1E, xn_lackSet hv1 hok hw (show i + 1 < 128 by omega), xn_lackSet hv1 hok hw (show sp_bs A v i < 128 by omega), mt_ltE, nI_1]
    have l1 := sp_ls_le hok (i + 1)
    have l2 := sp_ls_le hok (sp_bs A v i)
    have l3 := sp_ps_le hok (i + 1)
    by_cases q1 : v < sp_ps A (i + 1)
    · rw [if_pos (nI_lt q1 (by omega))]
      simp only [sp_bs]
      rw [if_neg (by omega)]
    · rw [if_neg (nI_nlt (by omega) (by omega))]
      by_cases q2 : sp_ls A (sp_bs A v i) ≤ sp_ls A (i + 1)
      · rw [if_pos (nI_le q2 (by omega))]
        simp only [sp_bs]
        rw [if_neg (by omega)]
      · rw [if_neg (nI_ge (by omega) (by omega))]
        simp only [sp_bs]
        rw [if_pos (by omega)]
  · rintro x y ⟨rfl, rfl⟩ k
    rw [xc_bits hv1 hok, mt_b1E, if_pos (nI_lt (by omega) (by omega))]
end XN3

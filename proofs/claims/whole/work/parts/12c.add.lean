/-! A NEW THING, AND RULES: class -/
def sp_eo (f u b : Int32) : Int32 := if f < 0 ∨ u < 0 then -4 else if b < f ∨ b < u then -6 else 0
theorem xo_either (f u b : Int32) : f_X11_eitherOutside f u 0 b = some (sp_eo f u b) := by
  unfold f_X11_eitherOutside f_X11_outside sp_eo
  simp only [mt_ltE]
  have l0 : ∀ x : Int32, (0 ≤ x) = ¬ x < 0 := fun x => by rw [Int32.not_lt]
  have lb : ∀ x : Int32, (x ≤ b) = ¬ b < x := fun x => by rw [Int32.not_lt]
  simp only [l0, lb]
  by_cases h : u < f
  · have h' : ¬ f < u := fun q => Int32.lt_irrefl (Int32.lt_trans h q)
    simp only [if_pos h, if_neg h']
    by_cases h1 : u < 0
    · simp [h1, mt_b1E]
    · have h2 : ¬ f < 0 := fun q => h1 (Int32.lt_trans h q)
      by_cases h3 : b < u
      · have h4 : b < f := Int32.lt_trans h3 h
        simp [h1, h2, h3, h4, mt_b1E]
      · by_cases h4 : b < f
        · simp [h1, h2, h3, h4, mt_b1E]
        · simp [h1, h2, h3, h4, mt_b1E]
  · by_cases h' : f < u
    · simp only [if_neg h, if_pos h']
      by_cases h1 : f < 0
      · simp [h1, mt_b1E]
      · have h2 : ¬ u < 0 := fun q => h1 (Int32.lt_trans h' q)
        by_cases h3 : b < f
        · have h4 : b < u := Int32.lt_trans h3 h'
          simp [h1, h2, h3, h4, mt_b1E]
        · by_cases h4 : b < u
          · simp [h1, h2, h3, h4, mt_b1E]
          · simp [h1, h2, h3, h4, mt_b1E]
    · have e : f = u := Int32.le_antisymm (Int32.not_lt.mp h) (Int32.not_lt.mp h')
      subst e
      simp only [if_neg h]
      by_cases h1 : f < 0
      · simp [h1, mt_b1E]
      · by_cases h3 : b < f
        · simp [h1, h3, mt_b1E]
        · simp [h1, h3, mt_b1E]
def sp_ra (k f u : Int32) (n : Nat) : Int32 := if k < 0 ∨ 5 < k then -2 else if f < 0 ∨ u < 0 then -4 else if 9 < f ∨ 9 < u ∨ n = 7 then -6 else 0
theorem sp_ra_0 {k f u : Int32} {n : Nat} (hn : n ≤ 7) (h : sp_ra k f u n = 0) : n < 7 ∧ ∃ a b c, a ≤ 5 ∧ b ≤ 9 ∧ c ≤ 9 ∧ k = nI a ∧ f = nI b ∧ u = nI c := by
  unfold sp_ra at h
  by_cases h1 : k < 0 ∨ 5 < k
  · rw [if_pos h1] at h; exact absurd h (by decide)
  · rw [if_neg h1] at h
    by_cases h2 : f < 0 ∨ u < 0
    · rw [if_pos h2] at h; exact absurd h (by decide)
    · rw [if_neg h2] at h
      by_cases h3 : 9 < f ∨ 9 < u ∨ n = 7
      · rw [if_pos h3] at h; exact absurd h (by decide)
      · have key : ∀ (x : Int32) (m : Nat), m ≤ 9 → ¬ x < 0 → ¬ nI m < x → ∃ j, j ≤ m ∧ x = nI j := fun x m hm q1 q2 => by
          obtain ⟨j, hj, rfl⟩ := nI_of q1
          exact ⟨j, by
            by_cases z : j ≤ m
            · exact z
            · exact absurd (nI_lt (by omega) hj) q2, rfl⟩
        obtain ⟨a, a1, a2⟩ := key k 5 (by decide) (fun q => h1 (Or.inl q)) (fun q => h1 (Or.inr q))
        obtain ⟨b, b1, b2⟩ := key f 9 (by decide) (fun q => h2 (Or.inl q)) (fun q => h3 (Or.inl q))
        obtain ⟨c, c1, c2⟩ := key u 9 (by decide) (fun q => h2 (Or.inr q)) (fun q => h3 (Or.inr (Or.inl q)))
        exact ⟨by have : n ≠ 7 := fun q => h3 (Or.inr (Or.inr q)); omega, a, b, c, a1, b1, c1, a2, b2, c2⟩
section HC3
variable {c : Nat} {M : mt_M} {A : hs_A} {t : Nat}
theorem xo_oneOf (x b : Int32) : f_X11_isOneOf x b = some (if x < 0 ∨ b < x then 0 else 1) := by
  unfold f_X11_isOneOf
  by_cases h : x < 0
  · simp [h]
  · by_cases h2 : b < x
    · simp [h, h2]
    · simp [h, h2]
theorem xo_isIn (x b : Int32) : f_X12_isIn x 0 b = some (if x < 0 ∨ b < x then 0 else 1) := by
  unfold f_X12_isIn
  by_cases h : x < 0
  · simp [h]
  · by_cases h2 : b < x
    · simp [h, h2]
    · simp [h, h2]
theorem xc_ra {n : Nat} (h8 : M c 8 = nI n) (hn : n ≤ 7) (k f u : Int32) : f_X0_refusalToAdd c k f u M = some (sp_ra k f u n) := by
  unfold f_X0_refusalToAdd sp_ra
  rw [xo_oneOf, mt_b1E, xo_either, h8]
  unfold sp_eo
  by_cases h1 : k < 0 ∨ 5 < k
  · rw [if_pos h1, if_pos rfl, if_pos h1]
  · rw [if_neg h1, if_neg (by decide), if_neg h1, mt_b1E]
    by_cases h2 : f < 0 ∨ u < 0
    · rw [if_pos h2, if_neg (by decide), if_pos h2]
    · rw [if_neg h2, if_neg h2]
      by_cases h3 : 9 < f ∨ 9 < u
      · rw [if_pos h3, if_neg (by decide), if_pos (h3.elim Or.inl (fun q => Or.inr (Or.inl q)))]
      · rw [if_neg h3, if_pos rfl, mi_7]
        by_cases h4 : n = 7
        · rw [if_neg (nI_nlt (by omega) (by omega)), if_pos (Or.inr (Or.inr h4))]
        · rw [if_pos (nI_lt (by omega) (by decide)), if_neg (fun q => q.elim (fun w => h3 (Or.inl w)) (fun w => w.elim (fun z => h3 (Or.inr z)) h4))]
theorem xc_addNo (hv : cv c M A) (hok : hs_ok A) {k f u : Int32} (h : sp_ra k f u (A 6 0) ≠ 0) : f_X0_add c k f u M = some (sp_ra k f u (A 6 0), M) := by
  unfold f_X0_add
  rw [xc_ra hv.1.1 hok.1, mt_b1E, if_neg h]
theorem xc_add (hv : cv c M A) (hok : hs_ok A) (hn : A 6 0 < 7) {k f u : Nat} (hk : k ≤ 5) (hf : f ≤ 9) (hu : u ≤ 9) : ∃ M', f_X0_add c (nI k) (nI f) (nI u) M = some (nI (A 6 0), M') ∧ cv c M' (hs_ad A k f u) := by
  have er : sp_ra (nI k) (nI f) (nI u) (A 6 0) = 0 := by
    unfold sp_ra
    rw [if_neg, if_neg, if_neg]
    · rintro (q | q | q)
      · exact nI_nlt hf (by omega) q
      · exact nI_nlt hu (by omega) q
      · omega
    · rintro (q | q)
      · exact nI_pos (by omega) q
      · exact nI_pos (by omega) q
    · rintro (q | q)
      · exact nI_pos (by omega) q
      · exact nI_nlt hk (by omega) q
  have hin : vp_in (nI (A 6 0)) 7 := vp_in_nI (by omega) (by omega)
  have hcl : (nI (A 6 0)).toNatClampNeg = A 6 0 := nI_clamp (by omega)
  have hink : vp_in (nI k) 6 := vp_in_nI (by omega) (by omega)
  have hclk : (nI k).toNatClampNeg = k := nI_clamp (by omega)
  obtain ⟨⟨a1, a2, a3, a4⟩, hr⟩ := hv
  have e8 : ∀ m : mt_M, m c = M c → m c 8 = nI (A 6 0) := fun m h => by rw [h]; exact a1
  obtain ⟨N, eN⟩ : ∃ m : mt_M, m = mt_wr (mt_wr (mt_wr (mt_wr (mt_wr (mt_wr M (c + 1) (A 6 0) (nI k)) (c + 2) (A 6 0) (nI f)) (c + 3) (A 6 0) (nI u)) (c + 4) (A 6 0) (nI (sp_pr k f))) (c + 5) (A 6 0) (nI (sp_pk k))) (c + 6) (A 6 0) (nI 0) := ⟨_, rfl⟩
  have eNc : N c = M c := by rw [eN, mt_wr_ne (by omega), mt_wr_ne (by omega), mt_wr_ne (by omega), mt_wr_ne (by omega), mt_wr_ne (by omega), mt_wr_ne (by omega)]
  refine ⟨mt_wr N c 8 (nI (A 6 0 + 1)), ?_, ⟨?_, ?_, ?_, ?_⟩, fun t ht => ?_⟩
  · unfold f_X0_add
    rw [xc_ra a1 hok.1, mt_b1E, er, if_pos rfl, a1]
    simp only [mt_ltE, mt_ci_t hin, hcl, mt_ci_t hink, hclk, kd_pr k (by omega) f (by omega), kd_pk k (by omega), mt_b1E]
    rw [show (0 : Int32) = nI 0 from rfl, ← eN, e8 N eNc, nI_1]
  · rw [mt_wr_s, hs_ad_0]
  · rw [mt_wr_n (by decide), eNc, hs_ad_6 _ _ _ _ (by decide)]; exact a2
  · rw [mt_wr_n (by decide), eNc, hs_ad_6 _ _ _ _ (by decide)]; exact a3
  · rw [mt_wr_n (by decide), eNc, hs_ad_6 _ _ _ _ (by decide)]; exact a4
  · rw [hs_ad_0] at ht
    rw [mt_wr_ne (show c + 1 ≠ c by omega), mt_wr_ne (show c + 2 ≠ c by omega), mt_wr_ne (show c + 3 ≠ c by omega), mt_wr_ne (show c + 4 ≠ c by omega), mt_wr_ne (show c + 5 ≠ c by omega), mt_wr_ne (show c + 6 ≠ c by omega)]
    by_cases q : t = A 6 0
    · subst q
      obtain ⟨q1, q2, q3, q4⟩ := hs_ad_n A k f u
      rw [q1, q2, q3, q4, eN]
      simp [mt_wr, mt_mu, upd]
    · rw [hs_ad_t A k f u (by decide) q, hs_ad_t A k f u (by decide) q, hs_ad_t A k f u (by decide) q, hs_ad_t A k f u (by decide) q]
      have h := hr t (by omega)
      rw [eN]
      simpa [mt_wr, mt_mu, upd, q] using h
theorem hc_add {h : Nat} (hh : hv h M A) (hok : hs_ok A) (hn : A 6 0 < 7) {k f u : Nat} (hk : k ≤ 5) (hf : f ≤ 9) (hu : u ≤ 9) : ∃ M', f_X0_add (h + 3) (nI k) (nI f) (nI u) M = some (nI (A 6 0), M') ∧ hv h M' (hs_ad A k f u) := by
  obtain ⟨⟨g1, g2, g3, g4, g5⟩, hc, hcv⟩ := hh
  obtain ⟨M', q1, q2⟩ := xc_add hcv hok hn hk hf hu
  have fr := fr_X0_add _ _ _ _ _ q1
  have e := fun x hx => hs_ad_6 A k f u (x := x) hx
  refine ⟨M', q1, ⟨by rw [fr h (by omega), e 1 (by decide)]; exact g1, by rw [fr h (by omega), e 2 (by decide)]; exact g2, by rw [fr h (by omega), e 3 (by decide)]; exact g3, by rw [fr _ (by omega), e 7 (by decide)]; exact g4, by rw [fr _ (by omega), e 8 (by decide)]; exact g5⟩, fun x hx => ?_, q2⟩
  rw [fr _ (by omega), (hs_ad_c A k f u).1, (hs_ad_c A k f u).2]
  exact hc x hx
theorem hc_put {h : Nat} (hh : hv h M A) (hwf : hs_wf A) (ht : t < A 6 0) {v : Nat} (hvv : v ≤ 99) : ∃ M', f_X0_putStock (h + 3) (nI t) (nI v) M = some M' ∧ hv h M' (hs_up A 3 t v) ∧ hs_wf (hs_up A 3 t v) := by
  obtain ⟨⟨g1, g2, g3, g4, g5⟩, hc, hcv⟩ := hh
  have q1 := xc_put hcv hwf.1.1 ht (v := v) (by omega)
  rw [Nat.min_eq_right hvv] at q1
  have fr := fr_X0_putStock _ _ _ _ q1
  refine ⟨_, q1, ⟨⟨by rw [fr h (by omega), hs_up_r _ (by decide)]; exact g1, by rw [fr h (by omega), hs_up_r _ (by decide)]; exact g2, by rw [fr h (by omega), hs_up_r _ (by decide)]; exact g3, by rw [fr _ (by omega), hs_up_r _ (by decide)]; exact g4, by rw [fr _ (by omega), hs_up_r _ (by decide)]; exact g5⟩, fun x hx => ?_, cv_w6 hcv t v⟩, ?_⟩
  · rw [fr _ (by omega), hs_up_r _ (by decide), hs_up_r _ (by decide)]; exact hc x hx
  · obtain ⟨hok, a, b, cc, d⟩ := hwf
    exact ⟨hs_ok_up3 hok t hvv, a, b, cc, d⟩
/-- the best rule -/
def sp_br (A : hs_A) : Nat → Nat
  | 0 => 1
  | i + 1 => if sp_wr A (sp_br A i) ≤ sp_wr A (i + 2) then sp_br A i else i + 2
theorem sp_br_le (A : hs_A) (i : Nat) : sp_br A i ≤ i + 1 := by
  induction i with
  | zero => exact Nat.le_refl _
  | succ i ih =>
    simp only [sp_br]
    split
    · omega
    · omega
theorem hc_best (hh : hv 10 M A) (hwf : hs_wf A) {w : Int32} (hw : w = 0 ∨ w = 1) : f_X11_bestRule w M = some (if w = 0 then nI (sp_br A 2) else nI (sp_wr A (sp_br A 2)), M) := by
  have ei : f_X11_isOneOf w 1 = some 1 := by rcases hw with rfl | rfl <;> rfl
  simp only [f_X11_bestRule, ei, mt_b1E, mt_10, if_false]
  refine mt_lz2 (P := fun r => r = some (if w = 0 then nI (sp_br A 2) else nI (sp_wr A (sp_br A 2)), M)) (fun i x y => x = nI (sp_br A i) ∧ y = nI (i + 2)) 2 (by decide) ?_ ?_ ⟨rfl, rfl⟩
  · rintro i hi x y ⟨rfl, rfl⟩ k
    left
    have hb := sp_br_le A i
    have l1 := sp_wr_le A (i + 2)
    have l2 := sp_wr_le A (sp_br A i)
    refine ⟨_, _, ⟨rfl, rfl⟩, ?_⟩
    rw [mi_3, if_neg (nI_nlt (show i + 2 ≤ 3 by omega) (by omega)), hc_harm hh hwf (show i + 2 ≤ 3 by omega), hc_harm hh hwf (show sp_br A i ≤ 3 by omega)]
    simp only [mt_b1E, mt_ltE, nI_1, sp_br]
    by_cases q : sp_wr A (sp_br A i) ≤ sp_wr A (i + 2)
    · rw [if_pos (nI_le q (by omega)), if_pos q]
    · rw [if_neg (nI_ge (by omega) (by omega)), if_neg q]
  · rintro x y ⟨rfl, rfl⟩ k
    have hb := sp_br_le A 2
    rw [mi_3, if_pos (nI_lt (by decide) (by decide)), hc_harm hh hwf (show sp_br A 2 ≤ 3 by omega)]
    rcases hw with rfl | rfl
    · rfl
    · rfl
/-- all the stock, its worth, what a week asks -/
theorem xc_stockAll (hv : cv 13 M A) (hok : hs_ok A) : f_X0_stockOfAll 13 M = some (nI (sp_sm (A 6 0) (A 3))) := by
  have h7 := hok.1
  unfold f_X0_stockOfAll
  refine mt_lz2 (P := fun r => r = some (nI (sp_sm (A 6 0) (A 3)))) (fun i x y => x = nI (sp_sm i (A 3)) ∧ y = nI i) (A 6 0) (by omega) ?_ ?_ ⟨rfl, rfl⟩
  · rintro i hi x y ⟨rfl, rfl⟩ k
    left
    have hin : vp_in (nI i) 7 := vp_in_nI (by omega) (by omega)
    have hcl : (nI i).toNatClampNeg = i := nI_clamp (by omega)
    refine ⟨_, _, ⟨rfl, rfl⟩, ?_⟩
    rw [hv.1.1, if_neg (nI_ge hi (by omega))]
    simp only [mt_ci_t hin, mt_ltE, hcl, (hv.2 i hi).2.2.2.2.2, nI_add, nI_1, sp_sm]
  · rintro x y ⟨rfl, rfl⟩ k
    rw [hv.1.1, if_pos (nI_le (Nat.le_refl _) (by omega))]
theorem xc_byPack (hv : cv 13 M A) (hok : hs_ok A) (ht : t < A 6 0) {v : Nat} (hvv : v < 2 ^ 31) : f_X0_byPack 13 (nI v) (nI t) M = some (nI (v / sp_pk (A 0 t))) := by
  have bpk := sp_pk_le (A 0 t) (by have := (hok.2 t ht).1; omega)
  simp only [f_X0_byPack, (xc_row hv hok ht).2.2.2.2.1, mt_b1E]
  rw [if_neg (nI_nle (by omega) (by omega)), mt_ck_t (nI_ne0 (by omega) (by omega)), pk_div hvv (by omega) (by omega)]
theorem xc_worth (hv : cv 13 M A) (hok : hs_ok A) : f_X0_worthOfAll 13 M = some (nI (sp_sm (A 6 0) (fun t => A 3 t * sp_pr (A 0 t) (A 1 t) / sp_pk (A 0 t)))) := by
  have h7 := hok.1
  unfold f_X0_worthOfAll
  refine mt_lz2 (P := fun r => r = some (nI (sp_sm (A 6 0) (fun t => A 3 t * sp_pr (A 0 t) (A 1 t) / sp_pk (A 0 t))))) (fun i x y => x = nI (sp_sm i (fun t => A 3 t * sp_pr (A 0 t) (A 1 t) / sp_pk (A 0 t))) ∧ y = nI i) (A 6 0) (by omega) ?_ ?_ ⟨rfl, rfl⟩
  · rintro i hi x y ⟨rfl, rfl⟩ k
    left
    have hin : vp_in (nI i) 7 := vp_in_nI (by omega) (by omega)
    have hcl : (nI i).toNatClampNeg = i := nI_clamp (by omega)
    obtain ⟨-, -, -, a4, a5, a6⟩ := hv.2 i hi
    obtain ⟨b1, b2, b3, b4⟩ := hok.2 i hi
    have hp := (sp_pr_le (A 0 i) (by omega) (A 1 i) (by omega)).1
    have hmul : A 3 i * sp_pr (A 0 i) (A 1 i) ≤ 99 * 55 := Nat.mul_le_mul b4 hp
    refine ⟨_, _, ⟨rfl, rfl⟩, ?_⟩
    rw [hv.1.1, if_neg (nI_ge hi (by omega))]
    simp only [mt_ci_t hin, mt_ltE, hcl, a4, a6, pk_mul, xc_byPack hv hok hi (show A 3 i * sp_pr (A 0 i) (A 1 i) < 2 ^ 31 by omega), mt_b1E, nI_add, nI_1, sp_sm]
  · rintro x y ⟨rfl, rfl⟩ k
    rw [hv.1.1, if_pos (nI_le (Nat.le_refl _) (by omega))]
theorem xc_week (hv : cv 13 M A) (hok : hs_ok A) : f_X0_penceOfWeek 13 M = some (nI (sp_sm (A 6 0) (fun t => (A 2 t * 7 + sp_pk (A 0 t) - 1) / sp_pk (A 0 t) * sp_pr (A 0 t) (A 1 t)))) := by
  have h7 := hok.1
  unfold f_X0_penceOfWeek
  refine mt_lz2 (P := fun r => r = some (nI (sp_sm (A 6 0) (fun t => (A 2 t * 7 + sp_pk (A 0 t) - 1) / sp_pk (A 0 t) * sp_pr (A 0 t) (A 1 t))))) (fun i x y => x = nI (sp_sm i (fun t => (A 2 t * 7 + sp_pk (A 0 t) - 1) / sp_pk (A 0 t) * sp_pr (A 0 t) (A 1 t))) ∧ y = nI i) (A 6 0) (by omega) ?_ ?_ ⟨rfl, rfl⟩
  · rintro i hi x y ⟨rfl, rfl⟩ k
    left
    have hin : vp_in (nI i) 7 := vp_in_nI (by omega) (by omega)
    have hcl : (nI i).toNatClampNeg = i := nI_clamp (by omega)
    obtain ⟨-, -, a3, a4, a5, a6⟩ := hv.2 i hi
    obtain ⟨b1, b2, b3, b4⟩ := hok.2 i hi
    have hp := sp_pk_le (A 0 i) (by omega)
    refine ⟨_, _, ⟨rfl, rfl⟩, ?_⟩
    rw [hv.1.1, if_neg (nI_ge hi (by omega))]
    have e1 : nI (A 2 i * 7 + sp_pk (A 0 i)) - 1 = nI (A 2 i * 7 + sp_pk (A 0 i) - 1) := pk_sub (b := 1) (by omega)
    simp only [mt_ci_t hin, mt_ltE, hcl, a3, a4, a5, mi_7, pk_mul, nI_add, e1, xc_byPack hv hok hi (show A 2 i * 7 + sp_pk (A 0 i) - 1 < 2 ^ 31 by omega), mt_b1E, nI_1, sp_sm]
  · rintro x y ⟨rfl, rfl⟩ k
    rw [hv.1.1, if_pos (nI_le (Nat.le_refl _) (by omega))]
/-- what a thing does harm -/
def sp_hr (A : hs_A) (t g : Nat) : Nat := if g = 0 then 3 * A 2 t else if g = 2 then sp_hm (A 0 t) (sp_pr (A 0 t) (A 1 t)) else 0
theorem xc_harm (hv : cv 13 M A) (hok : hs_ok A) (ht : t < A 6 0) {g : Nat} (hg : g ≤ 2) : f_X0_harmOf 13 (nI t) (nI g) M = some (nI (sp_hr A t g)) := by
  obtain ⟨r1, r2, r3, r4, r5, r6⟩ := xc_row hv hok ht
  obtain ⟨b1, b2, b3, b4⟩ := hok.2 t ht
  have hp := (sp_pr_le (A 0 t) (by omega) (A 1 t) (by omega)).1
  unfold sp_hr
  rcases (show g = 0 ∨ g = 1 ∨ g = 2 by omega) with rfl | rfl | rfl
  · simp only [f_X0_harmOf]
    rw [if_pos (show nI 0 = 0 from rfl), r2, mt_b1E, mi_3, pk_mul, if_pos trivial]
  · rfl
  · simp only [f_X0_harmOf]
    rw [if_neg (show ¬ nI 2 = 0 by decide), if_pos (show nI 2 = 2 from rfl), r6, mt_b1E, r4, mt_b1E, kd_hm _ (by omega) _ (by omega), mt_b1E, if_neg (by decide), if_pos trivial]
theorem sp_hr_le {A : hs_A} (hok : hs_ok A) (ht : t < A 6 0) (g : Nat) : sp_hr A t g ≤ 110 := by
  obtain ⟨b1, b2, b3, b4⟩ := hok.2 t ht
  have hp := (sp_pr_le (A 0 t) (by omega) (A 1 t) (by omega)).1
  unfold sp_hr sp_hm
  split
  · omega
  · split
    · split
      · omega
      · split
        · omega
        · split
          · omega
          · split
            · omega
            · omega
    · omega
end HC3

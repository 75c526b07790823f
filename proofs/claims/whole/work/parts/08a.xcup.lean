/-! THE CLASS'S CUPBOARD: the memory at a cupboard c tells a house A -/
theorem mt_10 : ((1 : Int32) = 0) = False := eq_false (by decide)
theorem mt_00 : ((0 : Int32) = 0) = True := eq_true rfl
theorem mt_mx0 {a b : Nat} (ha : a < 2 ^ 30) (hb : b < 2 ^ 30) : (if (0 : Int32) < nI a - nI b then nI a - nI b else 0) = nI (a - b) := by
  by_cases h : b ≤ a
  · rw [pk_sub h]
    by_cases h0 : a - b = 0
    · rw [h0]; rfl
    · rw [if_pos]
      rw [← nI_0]
      exact nI_lt (by omega) (by omega)
  · have h1 := pk_sneg (a := a) (b := b) hb (by omega)
    rw [if_neg, show a - b = 0 by omega]
    · rfl
    · intro h2
      exact Int32.lt_irrefl (Int32.lt_trans h1 h2)
theorem mt_mn99 {v : Nat} (hv : v < 2 ^ 31) : (if nI v < (99 : Int32) then nI v else (99 : Int32)) = nI (min 99 v) := by
  rw [mi_99]
  by_cases h : v < 99
  · rw [if_pos ((nI_ltI hv (by decide)).mpr h), Nat.min_eq_right (by omega)]
  · rw [if_neg (fun q => h ((nI_ltI hv (by decide)).mp q)), Nat.min_eq_left (by omega)]
theorem mt_mxn {v : Nat} (hv : v < 2 ^ 31) : (if (0 : Int32) < nI v then nI v else (0 : Int32)) = nI v := by
  by_cases h : v = 0
  · rw [h]; rfl
  · rw [if_pos]
    rw [← nI_0]
    exact nI_lt (by omega) hv
theorem mt_wr_ne {m : mt_M} {a k b : Nat} {x : Int32} (h : b ≠ a) : mt_wr m a k x b = m b := if_neg h
theorem mt_wr_s (m : mt_M) (a k : Nat) (x : Int32) : mt_wr m a k x a k = x := by simp [mt_wr, mt_mu, upd]
theorem mt_wr_n {m : mt_M} {a k j : Nat} {x : Int32} (h : j ≠ k) : mt_wr m a k x a j = m a j := by simp [mt_wr, mt_mu, upd, h]
theorem mt_mu_s (m : mt_M) (a : Nat) (f : Nat → Int32) : mt_mu m a f a = f := if_pos rfl
/-- the kinds -/
theorem kd_pr : ∀ k, k < 6 → ∀ f, f < 10 → f_K_priceAt (4 + k) (nI f) = some (nI (sp_pr k f)) := by decide +kernel
theorem kd_pk : ∀ k, k < 6 → f_K_packSize (4 + k) = some (nI (sp_pk k)) := by decide +kernel
theorem kd_lo : ∀ k, k < 6 → ∀ s, s < 100 → ∀ f, f < 10 → f_K_lostOf (4 + k) (nI s) (nI f) = some (nI (sp_lo k f s)) := by decide +kernel
theorem kd_hm : ∀ k, k < 6 → ∀ p, p < 56 → f_K_harmOfTwo (4 + k) (nI p) = some (nI (sp_hm k p)) := by decide +kernel
def cv (c : Nat) (M : mt_M) (A : hs_A) : Prop := (M c 8 = nI (A 6 0) ∧ M c 9 = nI (A 6 4) ∧ M c 10 = nI (A 6 5) ∧ M c 11 = nI (A 6 6)) ∧
  ∀ t, t < A 6 0 → M (c + 1) t = nI (A 0 t) ∧ M (c + 2) t = nI (A 1 t) ∧ M (c + 3) t = nI (A 2 t) ∧ M (c + 4) t = nI (sp_pr (A 0 t) (A 1 t)) ∧ M (c + 5) t = nI (sp_pk (A 0 t)) ∧ M (c + 6) t = nI (A 3 t)
theorem cv_frame {c : Nat} {M M' : mt_M} {A : hs_A} (h : cv c M A) (hf : ∀ id, c ≤ id → id < c + 7 → M' id = M id) : cv c M' A := by
  obtain ⟨h0, hr⟩ := h
  refine ⟨?_, fun t ht => ?_⟩
  · rw [hf c (by omega) (by omega)]; exact h0
  · rw [hf (c + 1) (by omega) (by omega), hf (c + 2) (by omega) (by omega), hf (c + 3) (by omega) (by omega), hf (c + 4) (by omega) (by omega), hf (c + 5) (by omega) (by omega), hf (c + 6) (by omega) (by omega)]
    exact hr t ht
theorem cv_up {c : Nat} {M : mt_M} {A : hs_A} {k v : Nat} (h : cv c M A) (h0 : k ≠ 0) (h4 : k ≠ 4) (h5 : k ≠ 5) (h6 : k ≠ 6) : cv c M (hs_up A 6 k v) := by
  have e : ∀ j, j ≠ k → hs_up A 6 k v 6 j = A 6 j := fun j hj => hs_up_n A hj
  obtain ⟨⟨a1, a2, a3, a4⟩, hr⟩ := h
  refine ⟨⟨by rw [e 0 (Ne.symm h0)]; exact a1, by rw [e 4 (Ne.symm h4)]; exact a2, by rw [e 5 (Ne.symm h5)]; exact a3, by rw [e 6 (Ne.symm h6)]; exact a4⟩, fun t ht => ?_⟩
  rw [e 0 (Ne.symm h0)] at ht
  simpa [hs_up] using hr t ht
theorem cv_w6 {c : Nat} {M : mt_M} {A : hs_A} (h : cv c M A) (t v : Nat) : cv c (mt_wr M (c + 6) t (nI v)) (hs_up A 3 t v) := by
  obtain ⟨h0, hr⟩ := h
  refine ⟨?_, fun x hx => ?_⟩
  · simpa [mt_wr, mt_mu, hs_up] using h0
  · have hx : x < A 6 0 := by simpa [hs_up] using hx
    obtain ⟨a1, a2, a3, a4, a5, a6⟩ := hr x hx
    refine ⟨by simpa [mt_wr, mt_mu, hs_up] using a1, by simpa [mt_wr, mt_mu, hs_up] using a2, by simpa [mt_wr, mt_mu, hs_up] using a3, by simpa [mt_wr, mt_mu, hs_up] using a4, by simpa [mt_wr, mt_mu, hs_up] using a5, ?_⟩
    by_cases q : x = t
    · subst q; rw [mt_wr_s, hs_up_s]
    · rw [mt_wr_n q, hs_up_n _ q]; exact a6
theorem cv_w3 {c : Nat} {M : mt_M} {A : hs_A} (h : cv c M A) (t v : Nat) : cv c (mt_wr M (c + 3) t (nI v)) (hs_up A 2 t v) := by
  obtain ⟨h0, hr⟩ := h
  refine ⟨?_, fun x hx => ?_⟩
  · simpa [mt_wr, mt_mu, hs_up] using h0
  · have hx : x < A 6 0 := by simpa [hs_up] using hx
    obtain ⟨a1, a2, a3, a4, a5, a6⟩ := hr x hx
    refine ⟨by simpa [mt_wr, mt_mu, hs_up] using a1, by simpa [mt_wr, mt_mu, hs_up] using a2, ?_, by simpa [mt_wr, mt_mu, hs_up] using a4, by simpa [mt_wr, mt_mu, hs_up] using a5, by simpa [mt_wr, mt_mu, hs_up] using a6⟩
    by_cases q : x = t
    · subst q; rw [mt_wr_s, hs_up_s]
    · rw [mt_wr_n q, hs_up_n _ q]; exact a3
theorem cv_wk {c : Nat} {M : mt_M} {A : hs_A} (h : cv c M A) (j k v : Nat) (hjk : (j = 9 ∧ k = 4) ∨ (j = 10 ∧ k = 5) ∨ (j = 11 ∧ k = 6)) : cv c (mt_wr M c j (nI v)) (hs_up A 6 k v) := by
  obtain ⟨⟨a1, a2, a3, a4⟩, hr⟩ := h
  have hr2 : ∀ x, x < hs_up A 6 k v 6 0 → mt_wr M c j (nI v) (c + 1) x = nI (hs_up A 6 k v 0 x) ∧ mt_wr M c j (nI v) (c + 2) x = nI (hs_up A 6 k v 1 x) ∧ mt_wr M c j (nI v) (c + 3) x = nI (hs_up A 6 k v 2 x) ∧ mt_wr M c j (nI v) (c + 4) x = nI (sp_pr (hs_up A 6 k v 0 x) (hs_up A 6 k v 1 x)) ∧ mt_wr M c j (nI v) (c + 5) x = nI (sp_pk (hs_up A 6 k v 0 x)) ∧ mt_wr M c j (nI v) (c + 6) x = nI (hs_up A 6 k v 3 x) := by
    intro x hx
    have hx : x < A 6 0 := by rw [hs_up_n _ (by omega)] at hx; exact hx
    simpa [mt_wr, mt_mu, hs_up] using hr x hx
  rcases hjk with ⟨rfl, rfl⟩ | ⟨rfl, rfl⟩ | ⟨rfl, rfl⟩
  · exact ⟨by simp [mt_wr, mt_mu, upd, hs_up, a1, a3, a4], hr2⟩
  · exact ⟨by simp [mt_wr, mt_mu, upd, hs_up, a1, a2, a4], hr2⟩
  · exact ⟨by simp [mt_wr, mt_mu, upd, hs_up, a1, a2, a3], hr2⟩
section XC
variable {c : Nat} {M : mt_M} {A : hs_A} {t : Nat}
theorem xc_has {n : Nat} (h8 : M c 8 = nI n) (hn : n < 2 ^ 31) (ht : t < 2 ^ 31) : f_X0_has c (nI t) M = some (if t < n then 1 else 0) := by
  unfold f_X0_has
  rw [if_neg (nI_pos ht), h8]
  by_cases h : t < n
  · rw [if_neg (fun q => absurd ((nI_leI hn ht).mp q) (by omega)), if_pos h]
  · rw [if_pos ((nI_leI hn ht).mpr (by omega)), if_neg h]
theorem xc_hasT (hv : cv c M A) (hn : A 6 0 ≤ 7) (ht : t < A 6 0) : f_X0_has c (nI t) M = some 1 := by
  rw [xc_has hv.1.1 (by omega) (by omega), if_pos ht]
theorem xc_hasF (hv : cv c M A) {x : Int32} (hx : x < 0 ∨ nI (A 6 0) ≤ x) : f_X0_has c x M = some 0 := by
  unfold f_X0_has
  by_cases h : x < 0
  · rw [if_pos h]
  · rw [if_neg h, hv.1.1, if_pos (hx.resolve_left h)]
theorem xc_row (hv : cv c M A) (hok : hs_ok A) (ht : t < A 6 0) : f_X0_figureOf c (nI t) M = some (nI (A 1 t)) ∧ f_X0_useOf c (nI t) M = some (nI (A 2 t)) ∧ f_X0_stockOf c (nI t) M = some (nI (A 3 t)) ∧ f_X0_priceOf c (nI t) M = some (nI (sp_pr (A 0 t) (A 1 t))) ∧ f_X0_packOf c (nI t) M = some (nI (sp_pk (A 0 t))) ∧ f_X0_kindOf c (nI t) M = some (4 + A 0 t) := by
  have hn := hok.1
  obtain ⟨a1, a2, a3, a4, a5, a6⟩ := hv.2 t ht
  have hin : vp_in (nI t) 7 := vp_in_nI (by omega) (by omega)
  have hcl : (nI t).toNatClampNeg = t := nI_clamp (by omega)
  have hh := xc_hasT hv hn ht
  have bk := (hok.2 t ht).1
  have hink : vp_in (nI (A 0 t)) 6 := vp_in_nI (by omega) (by omega)
  have hclk : (nI (A 0 t)).toNatClampNeg = A 0 t := nI_clamp (by omega)
  refine ⟨?_, ?_, ?_, ?_, ?_, ?_⟩
  · simp only [f_X0_figureOf, hh, mt_b1_some, mt_10, if_false, mt_ci_t hin, hcl, a2]
  · simp only [f_X0_useOf, hh, mt_b1_some, mt_10, if_false, mt_ci_t hin, hcl, a3]
  · simp only [f_X0_stockOf, hh, mt_b1_some, mt_10, if_false, mt_ci_t hin, hcl, a6]
  · simp only [f_X0_priceOf, hh, mt_b1_some, mt_10, if_false, mt_ci_t hin, hcl, a4]
  · simp only [f_X0_packOf, hh, mt_b1_some, mt_10, if_false, mt_ci_t hin, hcl, a5]
  · simp only [f_X0_kindOf, hh, mt_b1_some, mt_10, if_false, mt_ci_t hin, hcl, a1, mt_ci_t hink, hclk, mt_lt]
theorem xc_put (hv : cv c M A) (hn : A 6 0 ≤ 7) (ht : t < A 6 0) {v : Nat} (hvv : v < 2 ^ 31) : f_X0_putStock c (nI t) (nI v) M = some (mt_wr M (c + 6) t (nI (min 99 v))) := by
  have hin : vp_in (nI t) 7 := vp_in_nI (by omega) (by omega)
  have hcl : (nI t).toNatClampNeg = t := nI_clamp (by omega)
  simp only [f_X0_putStock, xc_hasT hv hn ht, mt_b1_some, mt_10, if_false, mt_lt, mt_mn99 hvv, mt_mxn (show min 99 v < 2 ^ 31 by omega), mt_ci_t hin, hcl]
theorem xc_buy (hv : cv c M A) (hok : hs_ok A) (ht : t < A 6 0) {k : Nat} (hk : k ≤ 1000) : ∃ M', f_X0_buy c (nI t) (nI k) M = some M' ∧ cv c M' (hs_buy A t k) := by
  obtain ⟨b1, b2, b3, b4⟩ := hok.2 t ht
  have bpk := sp_pk_le (A 0 t) (by omega)
  have hmul : k * sp_pk (A 0 t) ≤ 1000 * 6 := Nat.mul_le_mul hk bpk.1
  obtain ⟨r1, r2, r3, r4, r5, r6⟩ := xc_row hv hok ht
  have hv6 := cv_w6 hv t (min 99 (A 3 t + k * sp_pk (A 0 t)))
  have hok6 := hs_ok_up3 hok t (v := min 99 (A 3 t + k * sp_pk (A 0 t))) (Nat.min_le_left _ _)
  have ht6 : t < hs_up A 3 t (min 99 (A 3 t + k * sp_pk (A 0 t))) 6 0 := by simpa [hs_up] using ht
  obtain ⟨-, -, -, q4, -, -⟩ := xc_row hv6 hok6 ht6
  have hp9 := hv6.1.2.1
  refine ⟨_, ?_, cv_wk hv6 9 4 (A 6 4 + k * sp_pr (A 0 t) (A 1 t)) (Or.inl ⟨rfl, rfl⟩)⟩
  simp only [f_X0_buy, r3, r5, mt_b1_some, pk_mul, nI_add, xc_put hv hok.1 ht (show A 3 t + k * sp_pk (A 0 t) < 2 ^ 31 by omega), q4, hp9, mt_lt]
  simp [hs_up, nI_add, pk_mul]
theorem xc_ldo (hv : cv c M A) (hok : hs_ok A) (ht : t < A 6 0) : ∃ M', f_X0_liveDayOf c (nI t) M = some (nI (A 2 t - A 3 t), M') ∧ cv c M' (hs_dT A t) := by
  have hn := hok.1
  obtain ⟨bk, bf, bu, bs⟩ := hok.2 t ht
  obtain ⟨a1, a2, a3, a4, a5, a6⟩ := hv.2 t ht
  have hin : vp_in (nI t) 7 := vp_in_nI (by omega) (by omega)
  have hcl : (nI t).toNatClampNeg = t := nI_clamp (by omega)
  have hh := xc_hasT hv hn ht
  have hink : vp_in (nI (A 0 t)) 6 := vp_in_nI (by omega) (by omega)
  have hclk : (nI (A 0 t)).toNatClampNeg = A 0 t := nI_clamp (by omega)
  have hlo := kd_lo (A 0 t) (by omega) (A 3 t - A 2 t) (by omega) (A 1 t) (by omega)
  have hle := sp_lo_le (A 0 t) (A 1 t) (A 3 t - A 2 t)
  have w1 := cv_w6 hv t (sp_s1 (A 0 t) (A 1 t) (A 2 t) (A 3 t))
  have w2 := cv_wk w1 10 5 (A 6 5 + (A 2 t - A 3 t)) (Or.inr (Or.inl ⟨rfl, rfl⟩))
  have w3 := cv_wk w2 11 6 (A 6 6 + sp_lo (A 0 t) (A 1 t) (A 3 t - A 2 t)) (Or.inr (Or.inr ⟨rfl, rfl⟩))
  refine ⟨_, ?_, w3⟩
  have e1 := mt_mx0 (a := A 2 t) (b := A 3 t) (by omega) (by omega)
  have e2 := mt_mx0 (a := A 3 t) (b := A 2 t) (by omega) (by omega)
  have x10 : mt_wr M (c + 6) t (nI (sp_s1 (A 0 t) (A 1 t) (A 2 t) (A 3 t))) c 10 = nI (A 6 5) := by simpa [hs_up] using w1.1.2.2.1
  have x11 : mt_wr (mt_wr M (c + 6) t (nI (sp_s1 (A 0 t) (A 1 t) (A 2 t) (A 3 t)))) c 10 (nI (A 6 5 + (A 2 t - A 3 t))) c 11 = nI (A 6 6) := by simpa [hs_up] using w2.1.2.2.2
  simp only [f_X0_liveDayOf, hh, mt_b1_some, mt_10, if_false, mt_ci_t hin, hcl, a1, a2, a3, a6, mt_lt, e1, e2, mt_ci_t hink, hclk, hlo, pk_sub hle]
  rw [show A 3 t - A 2 t - sp_lo (A 0 t) (A 1 t) (A 3 t - A 2 t) = sp_s1 (A 0 t) (A 1 t) (A 2 t) (A 3 t) from rfl]
  simp only [x10, nI_add, x11]
theorem xc_ld (hv : cv c M A) (hok : hs_ok A) : ∃ M', f_X0_liveDay c M = some (nI (sp_sm (A 6 0) (fun t => A 2 t - A 3 t)), M') ∧ cv c M' (hs_day A) := by
  have hn := hok.1
  unfold f_X0_liveDay
  refine mt_lz3 (P := fun o => ∃ M', o = some (nI (sp_sm (A 6 0) (fun t => A 2 t - A 3 t)), M') ∧ cv c M' (hs_day A)) (fun i x y m => x = nI (sp_sm i (fun t => A 2 t - A 3 t)) ∧ y = nI i ∧ cv c m (hs_dP A i)) (A 6 0) (by omega) ?_ ?_ ⟨rfl, rfl, hv⟩
  · rintro i hi x y m ⟨rfl, rfl, hm⟩ k
    left
    have hoki := hs_ok_dP hok i (by omega)
    have e0 : hs_dP A i 6 0 = A 6 0 := hs_dP_6 _ _ (by decide) (by decide)
    obtain ⟨M', h1, h2⟩ := xc_ldo hm hoki (t := i) (by omega)
    refine ⟨_, _, _, ⟨rfl, rfl, h2⟩, ?_⟩
    have h8 := hm.1.1
    rw [e0] at h8
    rw [h8, if_neg (nI_ge hi (by omega)), h1]
    simp only [mt_b2_some, mt_lt, hs_dP_3, if_neg (Nat.lt_irrefl i), hs_dP_r A i (show (2 : Nat) ≠ 3 by decide) (by decide), nI_add, nI_1]
    rfl
  · rintro x y m ⟨rfl, rfl, hm⟩ k
    have h8 := hm.1.1
    rw [hs_dP_6 _ _ (by decide) (by decide)] at h8
    rw [h8, if_pos (nI_le (Nat.le_refl _) (by omega))]
    exact ⟨_, rfl, cv_up hm (by decide) (by decide) (by decide) (by decide)⟩
theorem xc_become {o : Nat} (hv : cv o M A) (hco : c + 7 < o ∨ o + 7 < c) (hn : A 6 0 ≤ 7) : ∃ M', f_X0_become c o M = some M' ∧ cv c M' A := by
  refine ⟨_, rfl, ?_⟩
  obtain ⟨⟨a1, a2, a3, a4⟩, hr⟩ := hv
  have n1 : ∀ i j, i ≤ 7 → j ≤ 7 → ¬ (o + i = c + j) := fun i j h1 h2 => by omega
  have m1 : ∀ j, j ≤ 7 → ¬ (o = c + j) := fun j h2 => by omega
  have m2 : ∀ i, i ≤ 7 → ¬ (o + i = c) := fun i h2 => by omega
  have m0 : ¬ (o = c) := by omega
  refine ⟨?_, fun t ht => ?_⟩
  · simp [mt_wr, mt_mu, upd, m1, m0, a1, a2, a3, a4]
  · obtain ⟨b1, b2, b3, b4, b5, b6⟩ := hr t ht
    have ht7 : t < 7 := by omega
    simp [mt_wr, mt_mu, va_cpy, ht7, n1, m2, b1, b2, b3, b4, b5, b6]
theorem xc_forget (hv : cv c M A) : ∃ M', f_X0_forgetTallies c M = some M' ∧ cv c M' (hs_up (hs_up (hs_up A 6 4 0) 6 5 0) 6 6 0) := 
  ⟨_, rfl, cv_wk (cv_wk (cv_wk hv 9 4 0 (Or.inl ⟨rfl, rfl⟩)) 10 5 0 (Or.inr (Or.inl ⟨rfl, rfl⟩))) 11 6 0 (Or.inr (Or.inr ⟨rfl, rfl⟩))⟩
end XC

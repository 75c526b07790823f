/-! THE REFERENCE'S CUPBOARD AND LISTS: its memory tells a house A -/
def sp_bt (w t : Nat) : Int32 := if w.testBit t then 1 else 0
/-- the 63 places that the reference keeps and puts back, in their order -/
def rf (M : mt_M) (j : Nat) : Int32 := if j < 7 then M 149 j else if j < 14 then M 150 (j - 7) else if j < 21 then M 151 (j - 14) else if j < 28 then M 152 (j - 21) else if j < 42 then M 153 (j - 28) else if j < 56 then M 154 (j - 42) else if j < 59 then M 155 (j - 56) else M 147 (j - 51)
def rv (f : Nat → Int32) (A : hs_A) : Prop := (f 59 = nI (A 6 0) ∧ f 60 = nI (A 6 1) ∧ f 61 = nI (A 6 2) ∧ f 62 = nI (A 6 3) ∧ f 56 = nI (A 6 4) ∧ f 57 = nI (A 6 5) ∧ f 58 = nI (A 6 6)) ∧
  ∀ t, t < A 6 0 → t < 7 → f t = nI (A 0 t) ∧ f (7 + t) = nI (A 1 t) ∧ f (14 + t) = nI (A 2 t) ∧ f (21 + t) = nI (A 3 t) ∧ f (28 + t) = sp_bt (A 6 7) t ∧ f (35 + t) = sp_bt (A 6 8) t ∧ f (42 + t) = nI (A 4 t) ∧ f (49 + t) = nI (A 5 t)
def rm (M : mt_M) (A : hs_A) : Prop := (M 147 8 = nI (A 6 0) ∧ M 147 9 = nI (A 6 1) ∧ M 147 10 = nI (A 6 2) ∧ M 147 11 = nI (A 6 3) ∧ M 155 0 = nI (A 6 4) ∧ M 155 1 = nI (A 6 5) ∧ M 155 2 = nI (A 6 6)) ∧
  ∀ t, t < A 6 0 → t < 7 → M 149 t = nI (A 0 t) ∧ M 150 t = nI (A 1 t) ∧ M 151 t = nI (A 2 t) ∧ M 152 t = nI (A 3 t) ∧ M 153 t = sp_bt (A 6 7) t ∧ M 153 (7 + t) = sp_bt (A 6 8) t ∧ M 154 t = nI (A 4 t) ∧ M 154 (7 + t) = nI (A 5 t)
theorem rm_rv {M : mt_M} {A : hs_A} : rm M A ↔ rv (rf M) A := by
  have key : ∀ t, t < 7 → rf M t = M 149 t ∧ rf M (7 + t) = M 150 t ∧ rf M (14 + t) = M 151 t ∧ rf M (21 + t) = M 152 t ∧ rf M (28 + t) = M 153 t ∧ rf M (35 + t) = M 153 (7 + t) ∧ rf M (42 + t) = M 154 t ∧ rf M (49 + t) = M 154 (7 + t) := by
    intro t ht
    refine ⟨?_, ?_, ?_, ?_, ?_, ?_, ?_, ?_⟩ <;> unfold rf
    · rw [if_pos ht]
    · rw [if_neg (by omega), if_pos (by omega)]; congr 1; omega
    · rw [if_neg (by omega), if_neg (by omega), if_pos (by omega)]; congr 1; omega
    · rw [if_neg (by omega), if_neg (by omega), if_neg (by omega), if_pos (by omega)]; congr 1; omega
    · rw [if_neg (by omega), if_neg (by omega), if_neg (by omega), if_neg (by omega), if_pos (by omega)]; congr 1; omega
    · rw [if_neg (by omega), if_neg (by omega), if_neg (by omega), if_neg (by omega), if_pos (by omega)]; congr 1; omega
    · rw [if_neg (by omega), if_neg (by omega), if_neg (by omega), if_neg (by omega), if_neg (by omega), if_pos (by omega)]; congr 1; omega
    · rw [if_neg (by omega), if_neg (by omega), if_neg (by omega), if_neg (by omega), if_neg (by omega), if_pos (by omega)]; congr 1; omega
  unfold rm rv
  constructor
  · rintro ⟨h0, hr⟩
    refine ⟨h0, fun t ht h7 => ?_⟩
    obtain ⟨k1, k2, k3, k4, k5, k6, k7, k8⟩ := key t h7
    rw [k1, k2, k3, k4, k5, k6, k7, k8]
    exact hr t ht h7
  · rintro ⟨h0, hr⟩
    refine ⟨h0, fun t ht h7 => ?_⟩
    have h := hr t ht h7
    obtain ⟨k1, k2, k3, k4, k5, k6, k7, k8⟩ := key t h7
    rw [k1, k2, k3, k4, k5, k6, k7, k8] at h
    exact h
theorem rm_eq {M M' : mt_M} (h : ∀ j, j < 63 → rf M' j = rf M j) {A : hs_A} (hr : rm M A) : rm M' A := by
  rw [rm_rv] at hr ⊢
  obtain ⟨⟨a1, a2, a3, a4, a5, a6, a7⟩, hr⟩ := hr
  refine ⟨⟨by rw [h _ (by decide)]; exact a1, by rw [h _ (by decide)]; exact a2, by rw [h _ (by decide)]; exact a3, by rw [h _ (by decide)]; exact a4, by rw [h _ (by decide)]; exact a5, by rw [h _ (by decide)]; exact a6, by rw [h _ (by decide)]; exact a7⟩, fun t ht h7 => ?_⟩
  rw [h _ (by omega), h _ (by omega), h _ (by omega), h _ (by omega), h _ (by omega), h _ (by omega), h _ (by omega), h _ (by omega)]
  exact hr t ht h7
theorem rm_w152 {M : mt_M} {A : hs_A} (h : rm M A) (t v : Nat) : rm (mt_wr M 152 t (nI v)) (hs_up A 3 t v) := by
  obtain ⟨h0, hr⟩ := h
  refine ⟨by simpa [mt_wr, mt_mu, hs_up] using h0, fun x hx h7 => ?_⟩
  have hx : x < A 6 0 := by simpa [hs_up] using hx
  obtain ⟨a1, a2, a3, a4, a5⟩ := hr x hx h7
  refine ⟨by simpa [mt_wr, mt_mu, hs_up] using a1, by simpa [mt_wr, mt_mu, hs_up] using a2, by simpa [mt_wr, mt_mu, hs_up] using a3, ?_, by simpa [mt_wr, mt_mu, hs_up] using a5⟩
  by_cases q : x = t
  · subst q; rw [mt_wr_s, hs_up_s]
  · rw [mt_wr_n q, hs_up_n _ q]; exact a4
theorem rm_w151 {M : mt_M} {A : hs_A} (h : rm M A) (t v : Nat) : rm (mt_wr M 151 t (nI v)) (hs_up A 2 t v) := by
  obtain ⟨h0, hr⟩ := h
  refine ⟨by simpa [mt_wr, mt_mu, hs_up] using h0, fun x hx h7 => ?_⟩
  have hx : x < A 6 0 := by simpa [hs_up] using hx
  obtain ⟨a1, a2, a3, a4, a5⟩ := hr x hx h7
  refine ⟨by simpa [mt_wr, mt_mu, hs_up] using a1, by simpa [mt_wr, mt_mu, hs_up] using a2, ?_, by simpa [mt_wr, mt_mu, hs_up] using a4, by simpa [mt_wr, mt_mu, hs_up] using a5⟩
  by_cases q : x = t
  · subst q; rw [mt_wr_s, hs_up_s]
  · rw [mt_wr_n q, hs_up_n _ q]; exact a3
theorem rm_w155 {M : mt_M} {A : hs_A} (h : rm M A) (j k v : Nat) (hjk : (j = 0 ∧ k = 4) ∨ (j = 1 ∧ k = 5) ∨ (j = 2 ∧ k = 6)) : rm (mt_wr M 155 j (nI v)) (hs_up A 6 k v) := by
  obtain ⟨⟨a1, a2, a3, a4, a5, a6, a7⟩, hr⟩ := h
  have hr2 : ∀ x, x < hs_up A 6 k v 6 0 → x < 7 → mt_wr M 155 j (nI v) 149 x = nI (hs_up A 6 k v 0 x) ∧ mt_wr M 155 j (nI v) 150 x = nI (hs_up A 6 k v 1 x) ∧ mt_wr M 155 j (nI v) 151 x = nI (hs_up A 6 k v 2 x) ∧ mt_wr M 155 j (nI v) 152 x = nI (hs_up A 6 k v 3 x) ∧ mt_wr M 155 j (nI v) 153 x = sp_bt (hs_up A 6 k v 6 7) x ∧ mt_wr M 155 j (nI v) 153 (7 + x) = sp_bt (hs_up A 6 k v 6 8) x ∧ mt_wr M 155 j (nI v) 154 x = nI (hs_up A 6 k v 4 x) ∧ mt_wr M 155 j (nI v) 154 (7 + x) = nI (hs_up A 6 k v 5 x) := by
    intro x hx h7
    have hx : x < A 6 0 := by rw [hs_up_n _ (by omega)] at hx; exact hx
    have e7 : hs_up A 6 k v 6 7 = A 6 7 := hs_up_n _ (by omega)
    have e8 : hs_up A 6 k v 6 8 = A 6 8 := hs_up_n _ (by omega)
    rw [e7, e8]
    simpa [mt_wr, mt_mu, hs_up] using hr x hx h7
  rcases hjk with ⟨rfl, rfl⟩ | ⟨rfl, rfl⟩ | ⟨rfl, rfl⟩
  · exact ⟨by simp [mt_wr, mt_mu, upd, hs_up, a1, a2, a3, a4, a6, a7], hr2⟩
  · exact ⟨by simp [mt_wr, mt_mu, upd, hs_up, a1, a2, a3, a4, a5, a7], hr2⟩
  · exact ⟨by simp [mt_wr, mt_mu, upd, hs_up, a1, a2, a3, a4, a5, a6], hr2⟩
theorem rm_w147 {M : mt_M} {A : hs_A} (h : rm M A) (j k v : Nat) (hjk : (j = 9 ∧ k = 1) ∨ (j = 10 ∧ k = 2) ∨ (j = 11 ∧ k = 3)) : rm (mt_wr M 147 j (nI v)) (hs_up A 6 k v) := by
  obtain ⟨⟨a1, a2, a3, a4, a5, a6, a7⟩, hr⟩ := h
  have hr2 : ∀ x, x < hs_up A 6 k v 6 0 → x < 7 → mt_wr M 147 j (nI v) 149 x = nI (hs_up A 6 k v 0 x) ∧ mt_wr M 147 j (nI v) 150 x = nI (hs_up A 6 k v 1 x) ∧ mt_wr M 147 j (nI v) 151 x = nI (hs_up A 6 k v 2 x) ∧ mt_wr M 147 j (nI v) 152 x = nI (hs_up A 6 k v 3 x) ∧ mt_wr M 147 j (nI v) 153 x = sp_bt (hs_up A 6 k v 6 7) x ∧ mt_wr M 147 j (nI v) 153 (7 + x) = sp_bt (hs_up A 6 k v 6 8) x ∧ mt_wr M 147 j (nI v) 154 x = nI (hs_up A 6 k v 4 x) ∧ mt_wr M 147 j (nI v) 154 (7 + x) = nI (hs_up A 6 k v 5 x) := by
    intro x hx h7
    have hx : x < A 6 0 := by rw [hs_up_n _ (by omega)] at hx; exact hx
    have e7 : hs_up A 6 k v 6 7 = A 6 7 := hs_up_n _ (by omega)
    have e8 : hs_up A 6 k v 6 8 = A 6 8 := hs_up_n _ (by omega)
    rw [e7, e8]
    simpa [mt_wr, mt_mu, hs_up] using hr x hx h7
  rcases hjk with ⟨rfl, rfl⟩ | ⟨rfl, rfl⟩ | ⟨rfl, rfl⟩
  · exact ⟨by simp [mt_wr, mt_mu, upd, hs_up, a1, a3, a4, a5, a6, a7], hr2⟩
  · exact ⟨by simp [mt_wr, mt_mu, upd, hs_up, a1, a2, a4, a5, a6, a7], hr2⟩
  · exact ⟨by simp [mt_wr, mt_mu, upd, hs_up, a1, a2, a3, a5, a6, a7], hr2⟩
section XM
variable {M : mt_M} {A : hs_A} {t : Nat}
theorem xm_isT (hv : rm M A) (hn : A 6 0 ≤ 7) (ht : t < A 6 0) : f_X12_isThing (nI t) M = some 1 := by
  unfold f_X12_isThing
  rw [if_neg (nI_pos (by omega)), hv.1.1, if_neg (nI_ge ht (by omega))]
theorem xm_isF (hv : rm M A) {x : Int32} (hx : x < 0 ∨ nI (A 6 0) ≤ x) : f_X12_isThing x M = some 0 := by
  unfold f_X12_isThing
  by_cases h : x < 0
  · rw [if_pos h]
  · rw [if_neg h, hv.1.1, if_pos (hx.resolve_left h)]
theorem kd_pr2 : ∀ k, k < 6 → ∀ f, f < 10 → (if nI k = (1 : Int32) then some ((nI (f + 2) / (2 : Int32))) else if nI k = (2 : Int32) then some (nI (f + 2)) else if nI k = (3 : Int32) then some (((5 : Int32) * nI (f + 2))) else if nI k = (4 : Int32) then some (((nI (f + 2) / (2 : Int32)) + (3 : Int32))) else if nI k = (5 : Int32) then some ((nI (f + 2) - (1 : Int32))) else some (nI (f + 2))) = some (nI (sp_pr k f)) := by decide +kernel
theorem kd_pk2 : ∀ k, k < 6 → (if nI k = (1 : Int32) then some ((2 : Int32)) else if nI k = (2 : Int32) then some ((3 : Int32)) else if nI k = (3 : Int32) then some ((1 : Int32)) else if nI k = (4 : Int32) then some ((2 : Int32)) else if nI k = (5 : Int32) then some ((6 : Int32)) else some ((1 : Int32))) = some (nI (sp_pk k)) := by decide +kernel
theorem kd_lo2 : ∀ k, k < 6 → ∀ s, s < 100 → ∀ f, f < 10 → ((fun j4 : Int32 → Option Int32 => if nI s ≤ nI f then j4 (0 : Int32) else j4 (nI s - nI f)) (fun v3 => if nI k = (1 : Int32) then some ((v3 / (2 : Int32))) else if nI k = (4 : Int32) then some (v3) else some ((0 : Int32)))) = some (nI (sp_lo k f s)) := by decide +kernel
theorem xm_row (hv : rm M A) (hok : hs_ok A) (ht : t < A 6 0) : f_X12_priceOf (nI t) M = some (nI (sp_pr (A 0 t) (A 1 t))) ∧ f_X12_packOf (nI t) M = some (nI (sp_pk (A 0 t))) ∧ f_X12_lostOf (nI t) M = some (nI (sp_lo (A 0 t) (A 1 t) (A 3 t))) := by
  have hn := hok.1
  obtain ⟨bk, bf, bu, bs⟩ := hok.2 t ht
  obtain ⟨a1, a2, a3, a4, -⟩ := hv.2 t ht (by omega)
  have hin : vp_in (nI t) 7 := vp_in_nI (by omega) (by omega)
  have hcl : (nI t).toNatClampNeg = t := nI_clamp (by omega)
  refine ⟨?_, ?_, ?_⟩
  · simp only [f_X12_priceOf, mt_ci_t hin, hcl, mt_lt, a1, a2]
    rw [mi_2, nI_add, ← mi_2]
    exact kd_pr2 _ (by omega) _ (by omega)
  · simp only [f_X12_packOf, mt_ci_t hin, hcl, mt_lt, a1]
    exact kd_pk2 _ (by omega)
  · simp only [f_X12_lostOf, mt_ci_t hin, hcl, mt_lt, a1, a2, a4]
    exact kd_lo2 _ (by omega) _ (by omega) _ (by omega)
theorem mt_le99 {v : Nat} {R : Type} (hv : v < 2 ^ 31) (j : Int32 → Option R) : (if nI v ≤ (99 : Int32) then j (nI v) else j (99 : Int32)) = j (nI (min 99 v)) := by
  by_cases h : v ≤ 99
  · rw [if_pos (by rw [mi_99]; exact (nI_leI hv (by decide)).mpr h), Nat.min_eq_right h]
  · rw [if_neg (by rw [mi_99]; exact fun q => h ((nI_leI hv (by decide)).mp q)), Nat.min_eq_left (by omega)]
    rfl
theorem xm_gets (hv : rm M A) (hok : hs_ok A) (ht : t < A 6 0) : ∃ M', f_X12_gets (nI t) M = some M' ∧ rm M' (hs_buy A t 1) := by
  have hn := hok.1
  obtain ⟨bk, bf, bu, bs⟩ := hok.2 t ht
  have bpk := sp_pk_le (A 0 t) (by omega)
  obtain ⟨a1, a2, a3, a4, -⟩ := hv.2 t ht (by omega)
  have hin : vp_in (nI t) 7 := vp_in_nI (by omega) (by omega)
  have hcl : (nI t).toNatClampNeg = t := nI_clamp (by omega)
  obtain ⟨r1, r2, r3⟩ := xm_row hv hok ht
  have hv6 := rm_w152 hv t (min 99 (A 3 t + sp_pk (A 0 t)))
  have hok6 := hs_ok_up3 hok t (v := min 99 (A 3 t + sp_pk (A 0 t))) (Nat.min_le_left _ _)
  have ht6 : t < hs_up A 3 t (min 99 (A 3 t + sp_pk (A 0 t))) 6 0 := by simpa [hs_up] using ht
  obtain ⟨q1, -, -⟩ := xm_row hv6 hok6 ht6
  have w := rm_w155 hv6 0 4 (A 6 4 + sp_pr (A 0 t) (A 1 t)) (Or.inl ⟨rfl, rfl⟩)
  have e0 := hv6.1.2.2.2.2.1
  refine ⟨?_, ?_, ?_⟩
  · exact mt_wr (mt_wr M 152 t (nI (min 99 (A 3 t + sp_pk (A 0 t))))) 155 0 (nI (A 6 4 + sp_pr (A 0 t) (A 1 t)))
  · simp only [f_X12_gets, mt_ci_t hin, hcl, r2, mt_b1_some, mt_lt, a4, nI_add]
    rw [mt_le99 (show A 3 t + sp_pk (A 0 t) < 2 ^ 31 by omega) (fun v5 => mt_b1 (f_X12_priceOf (nI t) (mt_wr M 152 t v5)) (fun r11 => some (mt_wr (mt_wr M 152 t v5) 155 (0 : Int32).toNatClampNeg (mt_wr M 152 t v5 155 (0 : Int32).toNatClampNeg + r11))))]
    simp only [q1, mt_b1_some, mc_0, e0]
    simp [hs_up, nI_add]
  · rw [show hs_buy A t 1 = hs_up (hs_up A 3 t (min 99 (A 3 t + sp_pk (A 0 t)))) 6 4 (A 6 4 + sp_pr (A 0 t) (A 1 t)) by simp [hs_buy]]
    exact w
theorem mt_lk2 {u s : Nat} {R : Type} (hu : u < 2 ^ 30) (hs : s < 2 ^ 30) (j : Int32 → Option R) : (if nI u ≤ nI s then j 0 else j (nI u - nI s)) = j (nI (u - s)) := by
  by_cases h : u ≤ s
  · rw [if_pos ((nI_leI (by omega) (by omega)).mpr h), show u - s = 0 by omega]; rfl
  · rw [if_neg (fun q => h ((nI_leI (by omega) (by omega)).mp q)), pk_sub (by omega)]
theorem xm_uses (hv : rm M A) (hok : hs_ok A) (ht : t < A 6 0) : ∃ M', f_X12_usesOf (nI t) M = some (nI (A 2 t - A 3 t), M') ∧ rm M' (hs_dT A t) := by
  have hn := hok.1
  obtain ⟨bk, bf, bu, bs⟩ := hok.2 t ht
  obtain ⟨a1, a2, a3, a4, -⟩ := hv.2 t ht (by omega)
  have hin : vp_in (nI t) 7 := vp_in_nI (by omega) (by omega)
  have hcl : (nI t).toNatClampNeg = t := nI_clamp (by omega)
  have hle := sp_lo_le (A 0 t) (A 1 t) (A 3 t - A 2 t)
  have w1 := rm_w152 hv t (A 3 t - A 2 t)
  have w2 := rm_w155 w1 1 5 (A 6 5 + (A 2 t - A 3 t)) (Or.inr (Or.inl ⟨rfl, rfl⟩))
  have w3 := rm_w155 w2 2 6 (A 6 6 + sp_lo (A 0 t) (A 1 t) (A 3 t - A 2 t)) (Or.inr (Or.inr ⟨rfl, rfl⟩))
  have w4 := rm_w152 w3 t (sp_s1 (A 0 t) (A 1 t) (A 2 t) (A 3 t))
  have hok1 := hs_ok_up6 (hs_ok_up3 hok t (v := A 3 t - A 2 t) (by omega)) (k := 5) (v := A 6 5 + (A 2 t - A 3 t)) (by decide)
  have ht1 : t < hs_up (hs_up A 3 t (A 3 t - A 2 t)) 6 5 (A 6 5 + (A 2 t - A 3 t)) 6 0 := by simpa [hs_up] using ht
  obtain ⟨-, -, q3⟩ := xm_row w2 hok1 ht1
  have q3 : f_X12_lostOf (nI t) (mt_wr (mt_wr M 152 t (nI (A 3 t - A 2 t))) 155 1 (nI (A 6 5 + (A 2 t - A 3 t)))) = some (nI (sp_lo (A 0 t) (A 1 t) (A 3 t - A 2 t))) := by
    rw [q3]; simp [hs_up]
  have x1 : mt_wr M 152 t (nI (A 3 t - A 2 t)) 155 1 = nI (A 6 5) := by simpa [hs_up] using w1.1.2.2.2.2.2.1
  have x2 : mt_wr (mt_wr M 152 t (nI (A 3 t - A 2 t))) 155 1 (nI (A 6 5 + (A 2 t - A 3 t))) 155 2 = nI (A 6 6) := by simpa [hs_up] using w2.1.2.2.2.2.2.2
  have x3 : mt_wr (mt_wr (mt_wr M 152 t (nI (A 3 t - A 2 t))) 155 1 (nI (A 6 5 + (A 2 t - A 3 t)))) 155 2 (nI (A 6 6 + sp_lo (A 0 t) (A 1 t) (A 3 t - A 2 t))) 152 t = nI (A 3 t - A 2 t) := by simp [mt_wr, mt_mu, upd]
  have e5 : nI (A 3 t) - (nI (A 2 t) - nI (A 2 t - A 3 t)) = nI (A 3 t - A 2 t) := by
    rw [pk_sub (by omega), pk_sub (by omega)]
    congr 1
    omega
  refine ⟨?_, ?_, ?_⟩
  · exact mt_wr (mt_wr (mt_wr (mt_wr M 152 t (nI (A 3 t - A 2 t))) 155 1 (nI (A 6 5 + (A 2 t - A 3 t)))) 155 2 (nI (A 6 6 + sp_lo (A 0 t) (A 1 t) (A 3 t - A 2 t)))) 152 t (nI (sp_s1 (A 0 t) (A 1 t) (A 2 t) (A 3 t)))
  · simp only [f_X12_usesOf, mt_ci_t hin, hcl, mt_lt, a3, a4]
    rw [mt_lk2 (u := A 2 t) (s := A 3 t) (by omega) (by omega) (fun v3 => mt_b1 (f_X12_lostOf (nI t) (mt_wr (mt_wr M 152 t (nI (A 3 t) - (nI (A 2 t) - v3))) 155 (1 : Int32).toNatClampNeg (mt_wr M 152 t (nI (A 3 t) - (nI (A 2 t) - v3)) 155 (1 : Int32).toNatClampNeg + v3))) (fun r12 => some (v3, mt_wr (mt_wr (mt_wr (mt_wr M 152 t (nI (A 3 t) - (nI (A 2 t) - v3))) 155 (1 : Int32).toNatClampNeg (mt_wr M 152 t (nI (A 3 t) - (nI (A 2 t) - v3)) 155 (1 : Int32).toNatClampNeg + v3)) 155 (2 : Int32).toNatClampNeg (mt_wr (mt_wr M 152 t (nI (A 3 t) - (nI (A 2 t) - v3))) 155 (1 : Int32).toNatClampNeg (mt_wr M 152 t (nI (A 3 t) - (nI (A 2 t) - v3)) 155 (1 : Int32).toNatClampNeg + v3) 155 (2 : Int32).toNatClampNeg + r12)) 152 t (mt_wr (mt_wr (mt_wr M 152 t (nI (A 3 t) - (nI (A 2 t) - v3))) 155 (1 : Int32).toNatClampNeg (mt_wr M 152 t (nI (A 3 t) - (nI (A 2 t) - v3)) 155 (1 : Int32).toNatClampNeg + v3)) 155 (2 : Int32).toNatClampNeg (mt_wr (mt_wr M 152 t (nI (A 3 t) - (nI (A 2 t) - v3))) 155 (1 : Int32).toNatClampNeg (mt_wr M 152 t (nI (A 3 t) - (nI (A 2 t) - v3)) 155 (1 : Int32).toNatClampNeg + v3) 155 (2 : Int32).toNatClampNeg + r12) 152 t - r12))))]
    simp only [e5, mc_1, mc_2, x1, nI_add, q3, mt_b1_some, x2, x3, pk_sub hle]
    rfl
  · have h9 : hs_up (hs_up (hs_up (hs_up A 3 t (A 3 t - A 2 t)) 6 5 (A 6 5 + (A 2 t - A 3 t))) 6 6 (A 6 6 + sp_lo (A 0 t) (A 1 t) (A 3 t - A 2 t))) 3 t (sp_s1 (A 0 t) (A 1 t) (A 2 t) (A 3 t)) = hs_dT A t := by
      funext j x
      simp only [hs_dT, hs_up]
      by_cases h3 : j = 3
      · subst h3
        by_cases hx : x = t
        · simp [hx]
        · simp [hx]
      · simp [h3]
    rw [← h9]
    exact w4
theorem xm_goes (hv : rm M A) (hok : hs_ok A) : ∃ M', f_X12_goesDay M = some (nI (sp_sm (A 6 0) (fun t => A 2 t - A 3 t)), M') ∧ rm M' (hs_day A) := by
  have hn := hok.1
  unfold f_X12_goesDay
  refine mt_lz3 (P := fun o => ∃ M', o = some (nI (sp_sm (A 6 0) (fun t => A 2 t - A 3 t)), M') ∧ rm M' (hs_day A)) (fun i x y m => x = nI (sp_sm i (fun t => A 2 t - A 3 t)) ∧ y = nI i ∧ rm m (hs_dP A i)) (A 6 0) (by omega) ?_ ?_ ⟨rfl, rfl, hv⟩
  · rintro i hi x y m ⟨rfl, rfl, hm⟩ k
    left
    have hoki := hs_ok_dP hok i (by omega)
    have e0 : hs_dP A i 6 0 = A 6 0 := hs_dP_6 _ _ (by decide) (by decide)
    obtain ⟨M', h1, h2⟩ := xm_uses hm hoki (t := i) (by omega)
    refine ⟨_, _, _, ⟨rfl, rfl, h2⟩, ?_⟩
    have h8 := hm.1.1
    rw [e0] at h8
    rw [h8, if_neg (nI_ge hi (by omega)), h1]
    simp only [mt_b2_some, mt_lt, hs_dP_3, if_neg (Nat.lt_irrefl i), hs_dP_r A i (show (2 : Nat) ≠ 3 by decide) (by decide), nI_add, nI_1]
    rfl
  · rintro x y m ⟨rfl, rfl, hm⟩ k
    have h8 := hm.1.1
    have h10 := hm.1.2.2.1
    rw [hs_dP_6 _ _ (by decide) (by decide)] at h8 h10
    rw [h8, if_pos (nI_le (Nat.le_refl _) (by omega))]
    refine ⟨_, rfl, ?_⟩
    rw [h10, nI_1]
    exact rm_w147 hm 10 2 (A 6 2 + 1) (Or.inr (Or.inl ⟨rfl, rfl⟩))
end XM

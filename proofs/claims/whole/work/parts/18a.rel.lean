/-! BOTH MEMORIES AS ONE: the relation, and what keeps it -/
def rI (M : mt_M) : Prop := (M 0 3 = 0 ∧ M 147 20 = 0) ∨ (M 0 3 = 1 ∧ M 147 20 = 1 ∧ ∃ P, hs_wf P ∧ hv 32 M P ∧ rv (fun j => M 160 j) P)
def rH (M : mt_M) (n q : Nat) : Prop := q < 8 ∧ n ≤ 8 ∧ M 43 1 = nI q ∧ M 43 2 = nI n ∧ M 147 23 = nI n ∧ ∀ i, i < n → ∃ B, hs_wf B ∧ hv (45 + 11 * ((q + 8 - n + i) % 8)) M B ∧ rv (fun j => M 160 (195 + 65 * i + j)) B
def rL (M : mt_M) (L : Nat) (T : Nat → Nat) : Prop := L ≤ 96 ∧ M 145 1 = nI L ∧ M 147 16 = nI L ∧ tm M 146 L T ∧ tm M 156 L T ∧ ∀ k, k < L → T k ≤ 255
def rW (M : mt_M) (w : Nat) (rr : Nat → Nat) : Prop := w ≤ 12 ∧ M 0 8 = nI w ∧ M 147 27 = nI w ∧ (∀ k, k < w → M 1 k = nI (rr k)) ∧ (∀ k, k < w → M 162 k = nI (rr k)) ∧ ∀ k, k < w → rr k ≤ 99
def rl (M : mt_M) : Prop := ∃ (A : hs_A) (n q L : Nat) (T : Nat → Nat) (w : Nat) (rr : Nat → Nat), hs_wf A ∧ hv 10 M A ∧ rm M A ∧ rI M ∧ rH M n q ∧ rL M L T ∧ rW M w rr ∧ ∀ k, k < 7 → M 2 k = M 148 k
theorem rv_eq {f g : Nat → Int32} {A : hs_A} (h : ∀ j, j < 63 → g j = f j) (hr : rv f A) : rv g A := by
  obtain ⟨⟨a1, a2, a3, a4, a5, a6, a7⟩, hr⟩ := hr
  refine ⟨⟨by rw [h _ (by decide)]; exact a1, by rw [h _ (by decide)]; exact a2, by rw [h _ (by decide)]; exact a3, by rw [h _ (by decide)]; exact a4, by rw [h _ (by decide)]; exact a5, by rw [h _ (by decide)]; exact a6, by rw [h _ (by decide)]; exact a7⟩, fun t ht h7 => ?_⟩
  rw [h _ (by omega), h _ (by omega), h _ (by omega), h _ (by omega), h _ (by omega), h _ (by omega), h _ (by omega), h _ (by omega)]
  exact hr t ht h7
theorem rm_fr {M M' : mt_M} {A : hs_A} (h : rm M A) (hf : ∀ id, 147 ≤ id → M' id = M id) : rm M' A := by
  refine rm_eq (fun j _ => ?_) h
  unfold rf
  rw [hf 149 (by decide), hf 150 (by decide), hf 151 (by decide), hf 152 (by decide), hf 153 (by decide), hf 154 (by decide), hf 155 (by decide), hf 147 (by decide)]
theorem rI_eq {M M' : mt_M} (h : rI M) (h0 : M' 0 3 = M 0 3) (h20 : M' 147 20 = M 147 20) (hp : ∀ id, 32 ≤ id → id < 42 → M' id = M id) (h160 : ∀ j, j < 63 → M' 160 j = M 160 j) : rI M' := by
  rcases h with ⟨a, b⟩ | ⟨a, b, P, c, d, e⟩
  · exact Or.inl ⟨h0.trans a, h20.trans b⟩
  · exact Or.inr ⟨h0.trans a, h20.trans b, P, c, hv_frame d (fun id x y => hp id x (by omega)), rv_eq (fun j hj => h160 j hj) e⟩
theorem rH_eq {M M' : mt_M} {n q : Nat} (h : rH M n q) (h43 : M' 43 = M 43) (h23 : M' 147 23 = M 147 23) (hk : ∀ id, 45 ≤ id → id < 133 → M' id = M id) (h160 : ∀ j, 195 ≤ j → M' 160 j = M 160 j) : rH M' n q := by
  obtain ⟨a, b, c, d, e, f⟩ := h
  refine ⟨a, b, by rw [h43]; exact c, by rw [h43]; exact d, h23.trans e, fun i hi => ?_⟩
  obtain ⟨B, b1, b2, b3⟩ := f i hi
  exact ⟨B, b1, hv_frame b2 (fun id x y => hk id (by omega) (by omega)), rv_eq (fun j _ => h160 _ (by omega)) b3⟩
theorem rL_eq {M M' : mt_M} {L : Nat} {T : Nat → Nat} (h : rL M L T) (h145 : M' 145 = M 145) (h146 : M' 146 = M 146) (h16 : M' 147 16 = M 147 16) (h156 : ∀ k, M' 156 k = M 156 k) : rL M' L T := by
  obtain ⟨a, b, c, d, e, f⟩ := h
  exact ⟨a, by rw [h145]; exact b, h16.trans c, fun k hk => by rw [h146]; exact d k hk, fun k hk => (h156 k).trans (e k hk), f⟩
theorem rW_eq {M M' : mt_M} {w : Nat} {rr : Nat → Nat} (h : rW M w rr) (h8 : M' 0 8 = M 0 8) (h27 : M' 147 27 = M 147 27) (h1 : M' 1 = M 1) (h162 : ∀ k, M' 162 k = M 162 k) : rW M' w rr := by
  obtain ⟨a, b, c, d, e, f⟩ := h
  exact ⟨a, h8.trans b, h27.trans c, fun k hk => by rw [h1]; exact d k hk, fun k hk => (h162 k).trans (e k hk), f⟩
theorem rl_eq {M M' : mt_M} (h : rl M) (hc : ∀ id, id < 134 → id ≠ 20 → id ≠ 2 → M' id = M id) (hl : ∀ id, id = 145 ∨ id = 146 → M' id = M id) (hrf : ∀ j, j < 63 → rf M' j = rf M j) (h160 : ∀ j, (j < 63 ∨ 195 ≤ j) → M' 160 j = M 160 j) (hi : ∀ id k, id = 156 ∨ id = 162 → M' id k = M id k) (hf : ∀ k, k = 16 ∨ k = 20 ∨ k = 23 ∨ k = 27 → M' 147 k = M 147 k) (hF : ∀ k, k < 7 → M' 2 k = M' 148 k) : rl M' := by
  obtain ⟨A, n, q, L, T, w, rr, hwf, hh, hr, hI, hH, hL, hW, -⟩ := h
  refine ⟨A, n, q, L, T, w, rr, hwf, hv_frame hh (fun id a b => hc id (by omega) (by omega) (by omega)), rm_eq hrf hr, ?_, ?_, ?_, ?_, hF⟩
  · exact rI_eq hI (by rw [hc 0 (by decide) (by decide) (by decide)]) (hf 20 (by decide)) (fun id a b => hc id (by omega) (by omega) (by omega)) (fun j hj => h160 j (Or.inl hj))
  · exact rH_eq hH (hc 43 (by decide) (by decide) (by decide)) (hf 23 (by decide)) (fun id a b => hc id (by omega) (by omega) (by omega)) (fun j hj => h160 j (Or.inr hj))
  · exact rL_eq hL (hl 145 (Or.inl rfl)) (hl 146 (Or.inr rfl)) (hf 16 (by decide)) (fun k => hi 156 k (Or.inl rfl))
  · exact rW_eq hW (by rw [hc 0 (by decide) (by decide) (by decide)]) (hf 27 (by decide)) (hc 1 (by decide) (by decide) (by decide)) (fun k => hi 162 k (Or.inr rfl))
/-- a question -/
theorem rl_q {M M1 M2 : mt_M} (h : rl M) (x : ∀ id, id ≠ 20 → (id < 134 ∨ 145 ≤ id) → M1 id = M id) (y : mq1 M1 M2) : rl M2 := by
  obtain ⟨y1, y2, y3, y4, y5⟩ := y
  have hF : ∀ k, k < 7 → M 2 k = M 148 k := by
    obtain ⟨A, n, q, L, T, w, rr, -, -, -, -, -, -, -, hF⟩ := h
    exact hF
  have x147 : ∀ id, 145 ≤ id → M1 id = M id := fun id hid => x id (by omega) (Or.inr hid)
  refine rl_eq h (fun id h1 h2 h3 => ?_) (fun id h1 => ?_) (fun j hj => ?_) (fun j hj => ?_) (fun id k h1 => ?_) (fun k h1 => ?_) (fun k hk => ?_)
  · funext k; rw [y5 id k (by omega), x id h2 (Or.inl h1)]
  · funext k; rw [y5 id k (by omega), x147 id (by omega)]
  · rw [y1 j hj]
    unfold rf
    rw [x147 149 (by decide), x147 150 (by decide), x147 151 (by decide), x147 152 (by decide), x147 153 (by decide), x147 154 (by decide), x147 155 (by decide), x147 147 (by decide)]
  · rw [y2 j hj, x147 160 (by decide)]
  · rw [y3 id k (by omega), x147 id (by omega)]
  · rw [y4 k h1, x147 147 (by decide)]
  · rw [y5 2 k (by decide), y3 148 k (by omega), x 2 (by decide) (by decide), x147 148 (by decide)]
    exact hF k hk
theorem rl_q0 {M M1 : mt_M} (h : rl M) (x : ∀ id, id ≠ 20 → (id < 134 ∨ 145 ≤ id) → M1 id = M id) : rl M1 := rl_q h x (mq.rfl' M1).mq1
/-- refused: counted on both sides -/
theorem rl_no {M M' : mt_M} (h : rl M) (p : Nat) (hM : ∀ id, id ≠ 163 → M' id = mt_wr M 2 p (M 2 p + 1) id) : rl (mt_wr M' 148 p (M' 148 p + 1)) := by
  have hF : ∀ k, k < 7 → M 2 k = M 148 k := by
    obtain ⟨A, n, q, L, T, w, rr, -, -, -, -, -, -, -, hF⟩ := h
    exact hF
  have o : ∀ id, id ≠ 163 → id ≠ 2 → id ≠ 148 → mt_wr M' 148 p (M' 148 p + 1) id = M id := fun id h1 h2 h3 => by rw [mt_wr_ne h3, hM id h1, mt_wr_ne h2]
  refine rl_eq h (fun id h1 h2 h3 => o id (by omega) h3 (by omega)) (fun id h1 => o id (by omega) (by omega) (by omega)) (fun j hj => ?_) (fun j hj => by rw [o 160 (by decide) (by decide) (by decide)]) (fun id k h1 => by rw [o id (by omega) (by omega) (by omega)]) (fun k h1 => by rw [o 147 (by decide) (by decide) (by decide)]) (fun k hk => ?_)
  · unfold rf
    rw [o 149 (by decide) (by decide) (by decide), o 150 (by decide) (by decide) (by decide), o 151 (by decide) (by decide) (by decide), o 152 (by decide) (by decide) (by decide), o 153 (by decide) (by decide) (by decide), o 154 (by decide) (by decide) (by decide), o 155 (by decide) (by decide) (by decide), o 147 (by decide) (by decide) (by decide)]
  · have e2 : mt_wr M' 148 p (M' 148 p + 1) 2 = mt_wr M 2 p (M 2 p + 1) 2 := by rw [mt_wr_ne (by decide), hM 2 (by decide)]
    have e148 : M' 148 = M 148 := by rw [hM 148 (by decide), mt_wr_ne (by decide)]
    rw [e2]
    by_cases z : k = p
    · subst z; rw [mt_wr_s, mt_wr_s, e148, hF k hk]
    · rw [mt_wr_n z, mt_wr_n z, e148, hF k hk]
/-- what a refusal does, on both sides -/
def rn (M : mt_M) (a : Int32) : Prop := ∃ M1, f_X11_refuse a M = some (a, M1) ∧ (∀ id, id ≠ 2 → M1 id = M id) ∧ ∀ M1', (∀ id, id ≠ 163 → M1' id = M1 id) → ∃ M2, f_X12_no a M1' = some (a, M2) ∧ f_X12_lowest a M1' = some ((4000000000000000000 : Int64) - a.toInt64, M2) ∧ rl M2
theorem rn_1 {M : mt_M} (h : rl M) : rn M (-1) := ⟨mt_wr M 2 1 (M 2 1 + 1), rfl, fun id hid => mt_wr_ne hid, fun M1' hM => ⟨_, rfl, rfl, rl_no h 1 hM⟩⟩
theorem rn_2 {M : mt_M} (h : rl M) : rn M (-2) := ⟨mt_wr M 2 2 (M 2 2 + 1), rfl, fun id hid => mt_wr_ne hid, fun M1' hM => ⟨_, rfl, rfl, rl_no h 2 hM⟩⟩
theorem rn_3 {M : mt_M} (h : rl M) : rn M (-3) := ⟨mt_wr M 2 3 (M 2 3 + 1), rfl, fun id hid => mt_wr_ne hid, fun M1' hM => ⟨_, rfl, rfl, rl_no h 3 hM⟩⟩
theorem rn_4 {M : mt_M} (h : rl M) : rn M (-4) := ⟨mt_wr M 2 4 (M 2 4 + 1), rfl, fun id hid => mt_wr_ne hid, fun M1' hM => ⟨_, rfl, rfl, rl_no h 4 hM⟩⟩
theorem rn_6 {M : mt_M} (h : rl M) : rn M (-6) := ⟨mt_wr M 2 6 (M 2 6 + 1), rfl, fun id hid => mt_wr_ne hid, fun M1' hM => ⟨_, rfl, rfl, rl_no h 6 hM⟩⟩
theorem nm1 : ((-1 : Int32) = 0) = False := eq_false (by decide)
theorem nm2 : ((-2 : Int32) = 0) = False := eq_false (by decide)
theorem nm3 : ((-3 : Int32) = 0) = False := eq_false (by decide)
theorem nm4 : ((-4 : Int32) = 0) = False := eq_false (by decide)
theorem nm6 : ((-6 : Int32) = 0) = False := eq_false (by decide)
/-- both bounds are one -/
theorem bo_c (x : Int32) {lo hi : Int32} (l h : Nat) (hl : lo = nI l) (hh : hi = nI h) (hlh : l ≤ h) (hb : h < 2 ^ 31) : ∃ r, f_X11_outside x lo hi = some r ∧ f_X12_bound x lo hi = some r ∧ ((r = -4 ∨ r = -6) ∨ (r = 0 ∧ ∃ j, l ≤ j ∧ j ≤ h ∧ x = nI j)) := by
  unfold f_X11_outside f_X12_bound
  subst hl hh
  by_cases q : nI l ≤ x
  · rw [if_pos q]
    by_cases z : x ≤ nI h
    · rw [if_pos z]
      refine ⟨0, rfl, rfl, Or.inr ⟨rfl, ?_⟩⟩
      by_cases x0 : x < 0
      · exact absurd (Int32.lt_of_le_of_lt q x0) (nI_pos (by omega))
      · obtain ⟨j, hj, rfl⟩ := nI_of x0
        exact ⟨j, (nI_leI (by omega) hj).mp q, (nI_leI hj hb).mp z, rfl⟩
    · rw [if_neg z]
      exact ⟨-6, rfl, rfl, Or.inl (Or.inr rfl)⟩
  · rw [if_neg q]
    exact ⟨-4, rfl, rfl, Or.inl (Or.inl rfl)⟩
theorem oo_c (x : Int32) {b : Int32} (m : Nat) (hb : b = nI m) (hm : m < 2 ^ 31) : (f_X11_isOneOf x b = some 0 ∧ f_X12_isIn x 0 b = some 0) ∨ (f_X11_isOneOf x b = some 1 ∧ f_X12_isIn x 0 b = some 1 ∧ ∃ j, j ≤ m ∧ x = nI j) := by
  subst hb
  rw [xo_oneOf, xo_isIn]
  by_cases q : x < 0 ∨ nI m < x
  · rw [if_pos q]; exact Or.inl ⟨rfl, rfl⟩
  · rw [if_neg q]
    refine Or.inr ⟨rfl, rfl, ?_⟩
    obtain ⟨j, hj, rfl⟩ := nI_of (fun z => q (Or.inl z))
    refine ⟨j, ?_, rfl⟩
    by_cases z : j ≤ m
    · exact z
    · exact absurd (Or.inr (nI_lt (by omega) hj)) q
/-- is there such a thing -/
theorem th_c {M M' : mt_M} {A : hs_A} (h7 : A 6 0 ≤ 7) (hv : cv 13 M A) (hr : rm M' A) (x : Int32) : (f_X0_has 13 x M = some 0 ∧ f_X12_isThing x M' = some 0) ∨ ∃ t, t < A 6 0 ∧ x = nI t := by
  rcases pk_ix x (n := A 6 0) (by omega) with q | q | ⟨j, hj, rfl⟩
  · exact Or.inl ⟨xc_hasF hv (Or.inl q), xm_isF hr (Or.inl q)⟩
  · exact Or.inl ⟨xc_hasF hv (Or.inr q), xm_isF hr (Or.inr q)⟩
  · exact Or.inr ⟨j, hj, rfl⟩
/-- a call that both answer alike -/
def ck (f g : mt_M → Option (Int32 × mt_M)) : Prop := ∀ M, rl M → ∃ r M1 M2, f M = some (r, M1) ∧ g M1 = some (r, M2) ∧ rl M2
def cp (f g : mt_M → Option Int32) : Prop := ∀ M, rl M → ∃ r, f M = some r ∧ g M = some r

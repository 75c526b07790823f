/-! THE REFERENCE KEEPS AND PUTS BACK: 63 places of it, at 65 w of its long row -/
theorem rf_149 (M : mt_M) {j : Nat} (h1 : 0 ≤ j) (h2 : j < 7) : rf M j = M 149 (j - 0) := by
  unfold rf
  rw [if_pos (by omega), Nat.sub_zero]
theorem rf_150 (M : mt_M) {j : Nat} (h1 : 7 ≤ j) (h2 : j < 14) : rf M j = M 150 (j - 7) := by
  unfold rf
  rw [if_neg (by omega), if_pos (by omega)]
theorem rf_151 (M : mt_M) {j : Nat} (h1 : 14 ≤ j) (h2 : j < 21) : rf M j = M 151 (j - 14) := by
  unfold rf
  rw [if_neg (by omega), if_neg (by omega), if_pos (by omega)]
theorem rf_152 (M : mt_M) {j : Nat} (h1 : 21 ≤ j) (h2 : j < 28) : rf M j = M 152 (j - 21) := by
  unfold rf
  rw [if_neg (by omega), if_neg (by omega), if_neg (by omega), if_pos (by omega)]
theorem rf_153 (M : mt_M) {j : Nat} (h1 : 28 ≤ j) (h2 : j < 42) : rf M j = M 153 (j - 28) := by
  unfold rf
  rw [if_neg (by omega), if_neg (by omega), if_neg (by omega), if_neg (by omega), if_pos (by omega)]
theorem rf_154 (M : mt_M) {j : Nat} (h1 : 42 ≤ j) (h2 : j < 56) : rf M j = M 154 (j - 42) := by
  unfold rf
  rw [if_neg (by omega), if_neg (by omega), if_neg (by omega), if_neg (by omega), if_neg (by omega), if_pos (by omega)]
theorem rf_155 (M : mt_M) {j : Nat} (h1 : 56 ≤ j) (h2 : j < 59) : rf M j = M 155 (j - 56) := by
  unfold rf
  rw [if_neg (by omega), if_neg (by omega), if_neg (by omega), if_neg (by omega), if_neg (by omega), if_neg (by omega), if_pos (by omega)]
theorem rf_147 (M : mt_M) {j : Nat} (h1 : 59 ≤ j) : rf M j = M 147 (j - 51) := by
  unfold rf
  rw [if_neg (by omega), if_neg (by omega), if_neg (by omega), if_neg (by omega), if_neg (by omega), if_neg (by omega), if_neg (by omega)]
section XK
variable {M : mt_M} {A : hs_A}
def mk_K (M M' : mt_M) (q n : Nat) (g : Nat → Int32) : Prop := (∀ j, M' 160 j = if q ≤ j ∧ j < q + n then g (j - q) else M 160 j) ∧ M' 147 22 = nI (q + n) ∧ ∀ id k, id ≠ 160 → (id ≠ 147 ∨ k ≠ 22) → M' id k = M id k
theorem mk_K_app {M M1 M2 : mt_M} {q n n2 : Nat} {g g2 : Nat → Int32} (h1 : mk_K M M1 q n g) (h2 : mk_K M1 M2 (q + n) n2 g2) : mk_K M M2 q (n + n2) (fun j => if j < n then g j else g2 (j - n)) := by
  obtain ⟨a1, a2, a3⟩ := h1
  obtain ⟨b1, b2, b3⟩ := h2
  refine ⟨fun j => ?_, by rw [b2, Nat.add_assoc], fun id k h hk => (b3 id k h hk).trans (a3 id k h hk)⟩
  rw [b1, a1]
  show _ = if q ≤ j ∧ j < q + (n + n2) then (if j - q < n then g (j - q) else g2 (j - q - n)) else M 160 j
  by_cases h : q + n ≤ j ∧ j < q + n + n2
  · rw [if_pos h, if_pos (by omega), if_neg (by omega)]
    congr 1
    omega
  · rw [if_neg h]
    by_cases h2 : q ≤ j ∧ j < q + n
    · rw [if_pos h2, if_pos (by omega), if_pos (by omega)]
    · rw [if_neg h2, if_neg (by omega)]
theorem mk_K_congr {M M' : mt_M} {q n : Nat} {g g' : Nat → Int32} (h : mk_K M M' q n g) (e : ∀ j, j < n → g j = g' j) : mk_K M M' q n g' := by
  refine ⟨fun j => ?_, h.2⟩
  rw [h.1 j]
  by_cases q2 : q ≤ j ∧ j < q + n
  · rw [if_pos q2, if_pos q2]; exact e _ (by omega)
  · rw [if_neg q2, if_neg q2]
theorem xm_passK {o n q : Nat} (h21 : M 147 21 = 1) (h22 : M 147 22 = nI q) (hq : q + n ≤ 780) (ho : o ≠ 160) (ho2 : o ≠ 147) (hn : n ≤ 100) : ∃ M', f_X12_passes o n M = some M' ∧ mk_K M M' q n (M o) := by
  unfold f_X12_passes
  refine mt_lz2 (P := fun r => ∃ M', r = some M' ∧ mk_K M M' q n (M o)) (fun i x m => x = nI i ∧ mk_K M m q i (M o)) n (by omega) ?_ ?_ ⟨rfl, fun j => by rw [if_neg (by omega)], h22, fun _ _ _ _ => rfl⟩
  · rintro i hi x m ⟨rfl, hm⟩ k
    left
    obtain ⟨m1, m2, m3⟩ := hm
    have e21 : m 147 21 = 1 := by rw [m3 147 21 (by decide) (Or.inr (by decide))]; exact h21
    have eo : ∀ k, m o k = M o k := fun k => m3 o k ho (Or.inl ho2)
    have c1 : (nI (q + i)).toNatClampNeg = q + i := nI_clamp (by omega)
    have c2 : (nI i).toNatClampNeg = i := nI_clamp (by omega)
    refine ⟨nI (i + 1), mt_wr (mt_wr m 160 (q + i) (M o i)) 147 22 (nI (q + (i + 1))), ⟨rfl, fun j => ?_, mt_wr_s _ _ _ _, fun id k h hk => ?_⟩, ?_⟩
    · rw [mt_wr_ne (show (160 : Nat) ≠ 147 by decide)]
      by_cases hj : j = q + i
      · subst hj; rw [mt_wr_s, if_pos (by omega), show q + i - q = i by omega]
      · rw [mt_wr_n hj, m1]
        by_cases h2 : q ≤ j ∧ j < q + i
        · rw [if_pos h2, if_pos (by omega)]
        · rw [if_neg h2, if_neg (by omega)]
    · rw [mt_wr_ne2 hk, mt_wr_ne h]
      exact m3 id k h hk
    · rw [if_neg (show ¬ Int32.ofNat n ≤ nI i from nI_ge hi (by omega))]
      simp only [mt_lt, e21, mt_10, if_false, m2, mt_ci_t (vp_in_nI (show i < n by omega) (by omega)), mt_ci_t (vp_in_nI (show q + i < 780 by omega) (by decide)), c1, c2, eo, nI_1]
      simp only [mt_wr_ne (show (147 : Nat) ≠ 160 by decide), m2, nI_1]
      rfl
  · rintro x m ⟨rfl, hm⟩ k
    rw [if_pos (show Int32.ofNat n ≤ nI n from nI_le (Nat.le_refl _) (by omega))]
    exact ⟨m, rfl, hm⟩
theorem xm_oneK {q : Nat} {v : Int32} (h21 : M 147 21 = 1) (h22 : M 147 22 = nI q) (hq : q < 780) : ∃ M', f_X12_passOne v M = some (v, M') ∧ mk_K M M' q 1 (fun _ => v) := by
  have c1 : (nI q).toNatClampNeg = q := nI_clamp (by omega)
  refine ⟨mt_wr (mt_wr M 160 q v) 147 22 (nI (q + 1)), ?_, fun j => ?_, mt_wr_s _ _ _ _, fun id k h hk => ?_⟩
  · simp only [f_X12_passOne, mt_lt, h21, mt_10, if_false, h22, mt_ci_t (vp_in_nI hq (by decide)), c1, mt_wr_ne (show (147 : Nat) ≠ 160 by decide), nI_1]
  · rw [mt_wr_ne (show (160 : Nat) ≠ 147 by decide)]
    by_cases hj : j = q
    · subst hj; rw [mt_wr_s, if_pos (by omega)]
    · rw [mt_wr_n hj, if_neg (by omega)]
  · rw [mt_wr_ne2 hk, mt_wr_ne h]
/-- a field is kept: its value goes out and comes back -/
theorem xm_fldK {q j : Nat} {B : mt_M → Option mt_M} (h21 : M 147 21 = 1) (h22 : M 147 22 = nI q) (hq : q < 780) (hj : j ≠ 22) : ∃ M', (mt_b2 (f_X12_passOne (M 147 j) M) (fun r m => mt_lt (mt_wr m 147 j r) B)) = B M' ∧ mk_K M M' q 1 (fun _ => M 147 j) ∧ M' 147 21 = 1 := by
  obtain ⟨M1, h1, h2⟩ := xm_oneK (v := M 147 j) h21 h22 hq
  have e : mt_wr M1 147 j (M 147 j) = M1 := by
    funext a k
    by_cases h : a = 147 ∧ k = j
    · obtain ⟨rfl, rfl⟩ := h
      rw [mt_wr_s, h2.2.2 147 k (by decide) (Or.inr hj)]
    · rw [mt_wr_ne2 (by omega)]
  refine ⟨M1, ?_, h2, ?_⟩
  · rw [h1, mt_b2_some]
    simp only [mt_lt, e]
  · rw [h2.2.2 147 21 (by decide) (Or.inr (by decide))]; exact h21
/-- the seven rows -/
theorem xm_arrK {q : Nat} (a21 : M 147 21 = 1) (a22 : M 147 22 = nI q) (hq : q + 63 ≤ 780) {B : mt_M → Option mt_M} : ∃ M', (mt_b1 (f_X12_passes 149 7 M) fun m => mt_b1 (f_X12_passes 150 7 m) fun m => mt_b1 (f_X12_passes 151 7 m) fun m => mt_b1 (f_X12_passes 152 7 m) fun m => mt_b1 (f_X12_passes 153 14 m) fun m => mt_b1 (f_X12_passes 154 14 m) fun m => mt_b1 (f_X12_passes 155 3 m) B) = B M' ∧ mk_K M M' q 59 (rf M) ∧ M' 147 21 = 1 := by
  have g21 : ∀ {m : mt_M} {n : Nat} {g : Nat → Int32}, mk_K M m q n g → m 147 21 = 1 := fun h => (h.2.2 147 21 (by decide) (Or.inr (by decide))).trans a21
  have gO : ∀ {m : mt_M} {n : Nat} {g : Nat → Int32} (o k : Nat), mk_K M m q n g → o ≠ 160 → o ≠ 147 → m o k = M o k := fun o k h h1 h2 => h.2.2 o k h1 (Or.inl h2)
  obtain ⟨M1, p1, k1⟩ := xm_passK (o := 149) (n := 7) a21 a22 (by omega) (by decide) (by decide) (by decide)
  have K1 : mk_K M M1 q 7 (rf M) := mk_K_congr k1 (fun j hj => by rw [rf_149 M (by omega) hj, Nat.sub_zero])
  obtain ⟨M2, p2, k2⟩ := xm_passK (o := 150) (n := 7) (g21 K1) K1.2.1 (by omega) (by decide) (by decide) (by decide)
  have K2 : mk_K M M2 q 14 (rf M) := mk_K_congr (mk_K_app K1 k2) (fun j hj => by
    by_cases h : j < 7
    · rw [if_pos h]
    · rw [if_neg h, gO 150 _ K1 (by decide) (by decide), rf_150 M (by omega) hj])
  obtain ⟨M3, p3, k3⟩ := xm_passK (o := 151) (n := 7) (g21 K2) K2.2.1 (by omega) (by decide) (by decide) (by decide)
  have K3 : mk_K M M3 q 21 (rf M) := mk_K_congr (mk_K_app K2 k3) (fun j hj => by
    by_cases h : j < 14
    · rw [if_pos h]
    · rw [if_neg h, gO 151 _ K2 (by decide) (by decide), rf_151 M (by omega) hj])
  obtain ⟨M4, p4, k4⟩ := xm_passK (o := 152) (n := 7) (g21 K3) K3.2.1 (by omega) (by decide) (by decide) (by decide)
  have K4 : mk_K M M4 q 28 (rf M) := mk_K_congr (mk_K_app K3 k4) (fun j hj => by
    by_cases h : j < 21
    · rw [if_pos h]
    · rw [if_neg h, gO 152 _ K3 (by decide) (by decide), rf_152 M (by omega) hj])
  obtain ⟨M5, p5, k5⟩ := xm_passK (o := 153) (n := 14) (g21 K4) K4.2.1 (by omega) (by decide) (by decide) (by decide)
  have K5 : mk_K M M5 q 42 (rf M) := mk_K_congr (mk_K_app K4 k5) (fun j hj => by
    by_cases h : j < 28
    · rw [if_pos h]
    · rw [if_neg h, gO 153 _ K4 (by decide) (by decide), rf_153 M (by omega) hj])
  obtain ⟨M6, p6, k6⟩ := xm_passK (o := 154) (n := 14) (g21 K5) K5.2.1 (by omega) (by decide) (by decide) (by decide)
  have K6 : mk_K M M6 q 56 (rf M) := mk_K_congr (mk_K_app K5 k6) (fun j hj => by
    by_cases h : j < 42
    · rw [if_pos h]
    · rw [if_neg h, gO 154 _ K5 (by decide) (by decide), rf_154 M (by omega) hj])
  obtain ⟨M7, p7, k7⟩ := xm_passK (o := 155) (n := 3) (g21 K6) K6.2.1 (by omega) (by decide) (by decide) (by decide)
  have K7 : mk_K M M7 q 59 (rf M) := mk_K_congr (mk_K_app K6 k7) (fun j hj => by
    by_cases h : j < 56
    · rw [if_pos h]
    · rw [if_neg h, gO 155 _ K6 (by decide) (by decide), rf_155 M (by omega) hj])
  exact ⟨M7, by simp only [p1, p2, p3, p4, p5, p6, p7, mt_b1_some], K7, g21 K7⟩
/-- the four fields -/
theorem xm_fldsK {q : Nat} (a21 : M 147 21 = 1) (a22 : M 147 22 = nI q) (hq : q + 4 ≤ 780) {B : mt_M → Option mt_M} : ∃ M', (mt_b2 (f_X12_passOne (M 147 8) M) fun r m => mt_lt (mt_wr m 147 8 r) fun m => mt_b2 (f_X12_passOne (m 147 9) m) fun r m => mt_lt (mt_wr m 147 9 r) fun m => mt_b2 (f_X12_passOne (m 147 10) m) fun r m => mt_lt (mt_wr m 147 10 r) fun m => mt_b2 (f_X12_passOne (m 147 11) m) fun r m => mt_lt (mt_wr m 147 11 r) B) = B M' ∧ mk_K M M' q 4 (fun j => M 147 (j + 8)) := by
  have gO : ∀ {m : mt_M} {n : Nat} {g : Nat → Int32} (k : Nat), mk_K M m q n g → k ≠ 22 → m 147 k = M 147 k := fun k h h1 => h.2.2 147 k (by decide) (Or.inr h1)
  obtain ⟨M1, p1, k1, b1⟩ := xm_fldK (j := 8) (B := fun m => mt_b2 (f_X12_passOne (m 147 9) m) fun r m => mt_lt (mt_wr m 147 9 r) fun m => mt_b2 (f_X12_passOne (m 147 10) m) fun r m => mt_lt (mt_wr m 147 10 r) fun m => mt_b2 (f_X12_passOne (m 147 11) m) fun r m => mt_lt (mt_wr m 147 11 r) B) a21 a22 (by omega) (by decide)
  have K1 : mk_K M M1 q 1 (fun j => M 147 (j + 8)) := mk_K_congr k1 (fun j hj => by rw [show j = 0 by omega])
  obtain ⟨M2, p2, k2, b2⟩ := xm_fldK (j := 9) (B := fun m => mt_b2 (f_X12_passOne (m 147 10) m) fun r m => mt_lt (mt_wr m 147 10 r) (fun m => mt_b2 (f_X12_passOne (m 147 11) m) fun r m => mt_lt (mt_wr m 147 11 r) (B))) b1 K1.2.1 (by omega) (by decide)
  have K2 : mk_K M M2 q 2 (fun j => M 147 (j + 8)) := mk_K_congr (mk_K_app K1 k2) (fun j hj => by
    by_cases h : j < 1
    · rw [if_pos h]
    · rw [if_neg h, show j = 1 by omega]; exact gO 9 K1 (by decide))
  obtain ⟨M3, p3, k3, b3⟩ := xm_fldK (j := 10) (B := fun m => mt_b2 (f_X12_passOne (m 147 11) m) fun r m => mt_lt (mt_wr m 147 11 r) (B)) b2 K2.2.1 (by omega) (by decide)
  have K3 : mk_K M M3 q 3 (fun j => M 147 (j + 8)) := mk_K_congr (mk_K_app K2 k3) (fun j hj => by
    by_cases h : j < 2
    · rw [if_pos h]
    · rw [if_neg h, show j = 2 by omega]; exact gO 10 K2 (by decide))
  obtain ⟨M4, p4, k4, b4⟩ := xm_fldK (j := 11) (B := B) b3 K3.2.1 (by omega) (by decide)
  have K4 : mk_K M M4 q 4 (fun j => M 147 (j + 8)) := mk_K_congr (mk_K_app K3 k4) (fun j hj => by
    by_cases h : j < 3
    · rw [if_pos h]
    · rw [if_neg h, show j = 3 by omega]; exact gO 11 K3 (by decide))
  exact ⟨M4, p1.trans (p2.trans (p3.trans p4)), K4⟩
theorem xm_paEq (a1 a2 : Int32) : f_X12_passesAll a1 a2 M = mt_ck (a2 = 0 ∨ a2 = 1) (mt_b1 (f_X12_passes 149 7 (mt_wr (mt_wr M 147 22 ((65 : Int32) * a1)) 147 21 a2)) fun m => mt_b1 (f_X12_passes 150 7 m) fun m => mt_b1 (f_X12_passes 151 7 m) fun m => mt_b1 (f_X12_passes 152 7 m) fun m => mt_b1 (f_X12_passes 153 14 m) fun m => mt_b1 (f_X12_passes 154 14 m) fun m => mt_b1 (f_X12_passes 155 3 m) fun m => mt_b2 (f_X12_passOne (m 147 8) m) fun r m => mt_lt (mt_wr m 147 8 r) fun m => mt_b2 (f_X12_passOne (m 147 9) m) fun r m => mt_lt (mt_wr m 147 9 r) fun m => mt_b2 (f_X12_passOne (m 147 10) m) fun r m => mt_lt (mt_wr m 147 10 r) fun m => mt_b2 (f_X12_passOne (m 147 11) m) fun r m => mt_lt (mt_wr m 147 11 r) fun m => some m) := by
  unfold f_X12_passesAll
  rfl
theorem xm_allK {w : Nat} (hw : w < 12) : ∃ M', f_X12_passesAll (nI w) 1 M = some M' ∧ (∀ j, M' 160 j = if 65 * w ≤ j ∧ j < 65 * w + 63 then rf M (j - 65 * w) else M 160 j) ∧ ∀ id k, id ≠ 160 → (id ≠ 147 ∨ (k ≠ 21 ∧ k ≠ 22)) → M' id k = M id k := by
  have e0 : (65 : Int32) * nI w = nI (65 * w) := by rw [show (65 : Int32) = nI 65 from rfl, pk_mul]
  obtain ⟨M0, eM0⟩ : ∃ m, m = mt_wr (mt_wr M 147 22 (nI (65 * w))) 147 21 1 := ⟨_, rfl⟩
  have a21 : M0 147 21 = 1 := by rw [eM0, mt_wr_s]
  have a22 : M0 147 22 = nI (65 * w) := by rw [eM0, mt_wr_n (by decide), mt_wr_s]
  have aO : ∀ id k, (id ≠ 147 ∨ (k ≠ 21 ∧ k ≠ 22)) → M0 id k = M id k := fun id k h => by
    rw [eM0, mt_wr_ne2 (by omega), mt_wr_ne2 (by omega)]
  have aR : ∀ j, j < 63 → rf M0 j = rf M j := fun j hj => by
    unfold rf
    simp only [aO 149 _ (Or.inl (by decide)), aO 150 _ (Or.inl (by decide)), aO 151 _ (Or.inl (by decide)), aO 152 _ (Or.inl (by decide)), aO 153 _ (Or.inl (by decide)), aO 154 _ (Or.inl (by decide)), aO 155 _ (Or.inl (by decide)), aO 147 (j - 51) (Or.inr (by omega))]
  obtain ⟨M7, p7, K7, b7⟩ := xm_arrK (B := fun m => mt_b2 (f_X12_passOne (m 147 8) m) fun r m => mt_lt (mt_wr m 147 8 r) fun m => mt_b2 (f_X12_passOne (m 147 9) m) fun r m => mt_lt (mt_wr m 147 9 r) fun m => mt_b2 (f_X12_passOne (m 147 10) m) fun r m => mt_lt (mt_wr m 147 10 r) fun m => mt_b2 (f_X12_passOne (m 147 11) m) fun r m => mt_lt (mt_wr m 147 11 r) fun m => some m) a21 a22 (by omega)
  obtain ⟨M11, p11, K11⟩ := xm_fldsK (B := fun m => some m) b7 K7.2.1 (by omega)
  have K := mk_K_app K7 K11
  refine ⟨M11, ?_, ?_, fun id k h hk => ?_⟩
  · rw [xm_paEq, e0, mt_ck_t (Or.inr rfl), ← eM0, p7, p11]
  · intro j
    rw [K.1 j]
    by_cases hj : 65 * w ≤ j ∧ j < 65 * w + 63
    · rw [if_pos (by omega), if_pos hj]
      show (if j - 65 * w < 59 then rf M0 (j - 65 * w) else M7 147 (j - 65 * w - 59 + 8)) = _
      by_cases h : j - 65 * w < 59
      · rw [if_pos h]; exact aR _ (by omega)
      · rw [if_neg h, rf_147 M (by omega), K7.2.2 147 _ (by decide) (Or.inr (by omega)), aO 147 _ (Or.inr (by omega))]
        exact congrArg (M 147) (by omega)
    · rw [if_neg (by omega), if_neg hj]
      exact aO _ _ (Or.inl (by decide))
  · rw [K.2.2 id k h (by omega)]
    exact aO id k hk
def mk_R (M M' : mt_M) (q n o : Nat) : Prop := (∀ k, M' o k = if k < n then M 160 (q + k) else M o k) ∧ M' 147 22 = nI (q + n) ∧ ∀ id k, id ≠ o → (id ≠ 147 ∨ k ≠ 22) → M' id k = M id k
theorem xm_passR {o n q : Nat} (h21 : M 147 21 = 0) (h22 : M 147 22 = nI q) (hq : q + n ≤ 780) (ho : o ≠ 160) (ho2 : o ≠ 147) (hn : n ≤ 100) : ∃ M', f_X12_passes o n M = some M' ∧ mk_R M M' q n o := by
  unfold f_X12_passes
  refine mt_lz2 (P := fun r => ∃ M', r = some M' ∧ mk_R M M' q n o) (fun i x m => x = nI i ∧ mk_R M m q i o) n (by omega) ?_ ?_ ⟨rfl, fun j => by rw [if_neg (by omega)], h22, fun _ _ _ _ => rfl⟩
  · rintro i hi x m ⟨rfl, hm⟩ k
    left
    obtain ⟨m1, m2, m3⟩ := hm
    have e21 : m 147 21 = 0 := by rw [m3 147 21 (Ne.symm ho2) (Or.inr (by decide))]; exact h21
    have e160 : ∀ k, m 160 k = M 160 k := fun k => m3 160 k (Ne.symm ho) (Or.inl (by decide))
    have c1 : (nI (q + i)).toNatClampNeg = q + i := nI_clamp (by omega)
    have c2 : (nI i).toNatClampNeg = i := nI_clamp (by omega)
    refine ⟨nI (i + 1), mt_wr (mt_wr m o i (M 160 (q + i))) 147 22 (nI (q + (i + 1))), ⟨rfl, fun j => ?_, mt_wr_s _ _ _ _, fun id k h hk => ?_⟩, ?_⟩
    · rw [mt_wr_ne (show o ≠ 147 from ho2)]
      by_cases hj : j = i
      · subst hj; rw [mt_wr_s, if_pos (by omega)]
      · rw [mt_wr_n hj, m1]
        by_cases h2 : j < i
        · rw [if_pos h2, if_pos (by omega)]
        · rw [if_neg h2, if_neg (by omega)]
    · rw [mt_wr_ne2 hk, mt_wr_ne h]
      exact m3 id k h hk
    · rw [if_neg (show ¬ Int32.ofNat n ≤ nI i from nI_ge hi (by omega))]
      simp only [mt_lt, e21, if_true, m2, mt_ci_t (vp_in_nI (show i < n by omega) (by omega)), mt_ci_t (vp_in_nI (show q + i < 780 by omega) (by decide)), c1, c2, e160, nI_1]
      simp only [mt_wr_ne (show (147 : Nat) ≠ o from Ne.symm ho2), m2, nI_1]
      rfl
  · rintro x m ⟨rfl, hm⟩ k
    rw [if_pos (show Int32.ofNat n ≤ nI n from nI_le (Nat.le_refl _) (by omega))]
    exact ⟨m, rfl, hm⟩
theorem xm_fldR {q j : Nat} {B : mt_M → Option mt_M} (h21 : M 147 21 = 0) (h22 : M 147 22 = nI q) (hq : q < 780) (hj : j ≠ 22) (hj2 : j ≠ 21) : ∃ M', (mt_b2 (f_X12_passOne (M 147 j) M) (fun r m => mt_lt (mt_wr m 147 j r) B)) = B M' ∧ M' 147 j = M 160 q ∧ M' 147 22 = nI (q + 1) ∧ M' 147 21 = 0 ∧ ∀ id k, (id ≠ 147 ∨ (k ≠ 22 ∧ k ≠ j)) → M' id k = M id k := by
  have c1 : (nI q).toNatClampNeg = q := nI_clamp (by omega)
  refine ⟨mt_wr (mt_wr M 147 22 (nI (q + 1))) 147 j (M 160 q), ?_, mt_wr_s _ _ _ _, by rw [mt_wr_n (Ne.symm hj), mt_wr_s], by rw [mt_wr_n (Ne.symm hj2), mt_wr_n (by decide)]; exact h21, fun id k h => by rw [mt_wr_ne2 (by omega), mt_wr_ne2 (by omega)]⟩
  simp only [f_X12_passOne, mt_lt, h21, if_true, h22, mt_ci_t (vp_in_nI hq (by decide)), c1, nI_1, mt_b2_some]
/-- the seven rows come back -/
theorem xm_arrR {q : Nat} (z0 : M 147 21 = 0) (c0 : M 147 22 = nI q) (hq : q + 63 ≤ 780) {B : mt_M → Option mt_M} : ∃ M', (mt_b1 (f_X12_passes 149 7 M) fun m => mt_b1 (f_X12_passes 150 7 m) fun m => mt_b1 (f_X12_passes 151 7 m) fun m => mt_b1 (f_X12_passes 152 7 m) fun m => mt_b1 (f_X12_passes 153 14 m) fun m => mt_b1 (f_X12_passes 154 14 m) fun m => mt_b1 (f_X12_passes 155 3 m) B) = B M' ∧ (∀ j, j < 59 → rf M' j = M 160 (q + j)) ∧ M' 147 22 = nI (q + 59) ∧ M' 147 21 = 0 ∧ ∀ id k, (id < 149 ∨ 155 < id) → (id ≠ 147 ∨ k ≠ 22) → M' id k = M id k := by
  have key : ∀ {m m' : mt_M} {o n a : Nat}, mk_R m m' (q + a) n o → (149 ≤ o ∧ o ≤ 155) → (∀ id k, (id < 149 ∨ 155 < id) → (id ≠ 147 ∨ k ≠ 22) → m id k = M id k) → ∀ id k, (id < 149 ∨ 155 < id) → (id ≠ 147 ∨ k ≠ 22) → m' id k = M id k := fun h ho hm id k h1 h2 => (h.2.2 id k (by omega) h2).trans (hm id k h1 h2)
  have f0 : ∀ id k, (id < 149 ∨ 155 < id) → (id ≠ 147 ∨ k ≠ 22) → M id k = M id k := fun _ _ _ _ => rfl
  obtain ⟨M1, p1, r1⟩ := xm_passR (M := M) (o := 149) (n := 7) (q := q + 0) ((f0 147 21 (by decide) (Or.inr (by decide))).trans z0) (by rw [c0, Nat.add_zero]) (by omega) (by decide) (by decide) (by decide)
  have f1 := key (a := 0) r1 (by decide) f0
  obtain ⟨M2, p2, r2⟩ := xm_passR (M := M1) (o := 150) (n := 7) (q := q + 7) ((f1 147 21 (by decide) (Or.inr (by decide))).trans z0) (by rw [r1.2.1]) (by omega) (by decide) (by decide) (by decide)
  have f2 := key (a := 7) r2 (by decide) f1
  obtain ⟨M3, p3, r3⟩ := xm_passR (M := M2) (o := 151) (n := 7) (q := q + 14) ((f2 147 21 (by decide) (Or.inr (by decide))).trans z0) (by rw [r2.2.1]) (by omega) (by decide) (by decide) (by decide)
  have f3 := key (a := 14) r3 (by decide) f2
  obtain ⟨M4, p4, r4⟩ := xm_passR (M := M3) (o := 152) (n := 7) (q := q + 21) ((f3 147 21 (by decide) (Or.inr (by decide))).trans z0) (by rw [r3.2.1]) (by omega) (by decide) (by decide) (by decide)
  have f4 := key (a := 21) r4 (by decide) f3
  obtain ⟨M5, p5, r5⟩ := xm_passR (M := M4) (o := 153) (n := 14) (q := q + 28) ((f4 147 21 (by decide) (Or.inr (by decide))).trans z0) (by rw [r4.2.1]) (by omega) (by decide) (by decide) (by decide)
  have f5 := key (a := 28) r5 (by decide) f4
  obtain ⟨M6, p6, r6⟩ := xm_passR (M := M5) (o := 154) (n := 14) (q := q + 42) ((f5 147 21 (by decide) (Or.inr (by decide))).trans z0) (by rw [r5.2.1]) (by omega) (by decide) (by decide) (by decide)
  have f6 := key (a := 42) r6 (by decide) f5
  obtain ⟨M7, p7, r7⟩ := xm_passR (M := M6) (o := 155) (n := 3) (q := q + 56) ((f6 147 21 (by decide) (Or.inr (by decide))).trans z0) (by rw [r6.2.1]) (by omega) (by decide) (by decide) (by decide)
  have f7 := key (a := 56) r7 (by decide) f6
  have v1 : ∀ k, k < 7 → M7 149 k = M 160 (q + 0 + k) := fun k hk => by
    rw [r7.2.2 149 k (by decide) (Or.inl (by decide)), r6.2.2 149 k (by decide) (Or.inl (by decide)), r5.2.2 149 k (by decide) (Or.inl (by decide)), r4.2.2 149 k (by decide) (Or.inl (by decide)), r3.2.2 149 k (by decide) (Or.inl (by decide)), r2.2.2 149 k (by decide) (Or.inl (by decide)), r1.1 k, if_pos hk, f0 160 _ (by decide) (Or.inl (by decide))]
  have v2 : ∀ k, k < 7 → M7 150 k = M 160 (q + 7 + k) := fun k hk => by
    rw [r7.2.2 150 k (by decide) (Or.inl (by decide)), r6.2.2 150 k (by decide) (Or.inl (by decide)), r5.2.2 150 k (by decide) (Or.inl (by decide)), r4.2.2 150 k (by decide) (Or.inl (by decide)), r3.2.2 150 k (by decide) (Or.inl (by decide)), r2.1 k, if_pos hk, f1 160 _ (by decide) (Or.inl (by decide))]
  have v3 : ∀ k, k < 7 → M7 151 k = M 160 (q + 14 + k) := fun k hk => by
    rw [r7.2.2 151 k (by decide) (Or.inl (by decide)), r6.2.2 151 k (by decide) (Or.inl (by decide)), r5.2.2 151 k (by decide) (Or.inl (by decide)), r4.2.2 151 k (by decide) (Or.inl (by decide)), r3.1 k, if_pos hk, f2 160 _ (by decide) (Or.inl (by decide))]
  have v4 : ∀ k, k < 7 → M7 152 k = M 160 (q + 21 + k) := fun k hk => by
    rw [r7.2.2 152 k (by decide) (Or.inl (by decide)), r6.2.2 152 k (by decide) (Or.inl (by decide)), r5.2.2 152 k (by decide) (Or.inl (by decide)), r4.1 k, if_pos hk, f3 160 _ (by decide) (Or.inl (by decide))]
  have v5 : ∀ k, k < 14 → M7 153 k = M 160 (q + 28 + k) := fun k hk => by
    rw [r7.2.2 153 k (by decide) (Or.inl (by decide)), r6.2.2 153 k (by decide) (Or.inl (by decide)), r5.1 k, if_pos hk, f4 160 _ (by decide) (Or.inl (by decide))]
  have v6 : ∀ k, k < 14 → M7 154 k = M 160 (q + 42 + k) := fun k hk => by
    rw [r7.2.2 154 k (by decide) (Or.inl (by decide)), r6.1 k, if_pos hk, f5 160 _ (by decide) (Or.inl (by decide))]
  have v7 : ∀ k, k < 3 → M7 155 k = M 160 (q + 56 + k) := fun k hk => by
    rw [r7.1 k, if_pos hk, f6 160 _ (by decide) (Or.inl (by decide))]
  refine ⟨M7, by simp only [p1, p2, p3, p4, p5, p6, p7, mt_b1_some], fun j hj => ?_, by rw [r7.2.1], (f7 147 21 (by decide) (Or.inr (by decide))).trans z0, f7⟩
  rcases (show j < 7 ∨ (7 ≤ j ∧ j < 14) ∨ (14 ≤ j ∧ j < 21) ∨ (21 ≤ j ∧ j < 28) ∨ (28 ≤ j ∧ j < 42) ∨ (42 ≤ j ∧ j < 56) ∨ (56 ≤ j ∧ j < 59) by omega) with h | h | h | h | h | h | h
  · rw [rf_149 M7 (by omega) h, v1 _ (by omega)]; exact congrArg (M 160) (by omega)
  · rw [rf_150 M7 h.1 h.2, v2 _ (by omega)]; exact congrArg (M 160) (by omega)
  · rw [rf_151 M7 h.1 h.2, v3 _ (by omega)]; exact congrArg (M 160) (by omega)
  · rw [rf_152 M7 h.1 h.2, v4 _ (by omega)]; exact congrArg (M 160) (by omega)
  · rw [rf_153 M7 h.1 h.2, v5 _ (by omega)]; exact congrArg (M 160) (by omega)
  · rw [rf_154 M7 h.1 h.2, v6 _ (by omega)]; exact congrArg (M 160) (by omega)
  · rw [rf_155 M7 h.1 h.2, v7 _ (by omega)]; exact congrArg (M 160) (by omega)
theorem xm_fldsR {q : Nat} (z0 : M 147 21 = 0) (c0 : M 147 22 = nI q) (hq : q + 4 ≤ 780) {B : mt_M → Option mt_M} : ∃ M', (mt_b2 (f_X12_passOne (M 147 8) M) fun r m => mt_lt (mt_wr m 147 8 r) fun m => mt_b2 (f_X12_passOne (m 147 9) m) fun r m => mt_lt (mt_wr m 147 9 r) fun m => mt_b2 (f_X12_passOne (m 147 10) m) fun r m => mt_lt (mt_wr m 147 10 r) fun m => mt_b2 (f_X12_passOne (m 147 11) m) fun r m => mt_lt (mt_wr m 147 11 r) B) = B M' ∧ (M' 147 8 = M 160 q ∧ M' 147 9 = M 160 (q + 1) ∧ M' 147 10 = M 160 (q + 2) ∧ M' 147 11 = M 160 (q + 3)) ∧ ∀ id k, (id ≠ 147 ∨ (k ≠ 8 ∧ k ≠ 9 ∧ k ≠ 10 ∧ k ≠ 11 ∧ k ≠ 22)) → M' id k = M id k := by
  obtain ⟨M1, p1, v1, c1, z1, f1⟩ := xm_fldR (j := 8) (B := fun m => mt_b2 (f_X12_passOne (m 147 9) m) fun r m => mt_lt (mt_wr m 147 9 r) (fun m => mt_b2 (f_X12_passOne (m 147 10) m) fun r m => mt_lt (mt_wr m 147 10 r) (fun m => mt_b2 (f_X12_passOne (m 147 11) m) fun r m => mt_lt (mt_wr m 147 11 r) (B)))) z0 c0 (by omega) (by decide) (by decide)
  obtain ⟨M2, p2, v2, c2, z2, f2⟩ := xm_fldR (j := 9) (B := fun m => mt_b2 (f_X12_passOne (m 147 10) m) fun r m => mt_lt (mt_wr m 147 10 r) (fun m => mt_b2 (f_X12_passOne (m 147 11) m) fun r m => mt_lt (mt_wr m 147 11 r) (B))) z1 c1 (by omega) (by decide) (by decide)
  obtain ⟨M3, p3, v3, c3, z3, f3⟩ := xm_fldR (j := 10) (B := fun m => mt_b2 (f_X12_passOne (m 147 11) m) fun r m => mt_lt (mt_wr m 147 11 r) (B)) z2 c2 (by omega) (by decide) (by decide)
  obtain ⟨M4, p4, v4, c4, z4, f4⟩ := xm_fldR (j := 11) (B := B) z3 c3 (by omega) (by decide) (by decide)
  refine ⟨M4, p1.trans (p2.trans (p3.trans p4)), ⟨?_, ?_, ?_, ?_⟩, fun id k h => ?_⟩
  · rw [f4 147 8 (Or.inr (by decide)), f3 147 8 (Or.inr (by decide)), f2 147 8 (Or.inr (by decide)), v1]
  · rw [f4 147 9 (Or.inr (by decide)), f3 147 9 (Or.inr (by decide)), v2, f1 160 _ (Or.inl (by decide))]
  · rw [f4 147 10 (Or.inr (by decide)), v3, f2 160 _ (Or.inl (by decide)), f1 160 _ (Or.inl (by decide))]
  · rw [v4, f3 160 _ (Or.inl (by decide)), f2 160 _ (Or.inl (by decide)), f1 160 _ (Or.inl (by decide))]
  · rw [f4 id k (by omega), f3 id k (by omega), f2 id k (by omega), f1 id k (by omega)]
theorem xm_allR {w : Nat} (hw : w < 12) : ∃ M', f_X12_passesAll (nI w) 0 M = some M' ∧ (∀ j, j < 63 → rf M' j = M 160 (65 * w + j)) ∧ (∀ k, M' 160 k = M 160 k) ∧ ∀ id k, (id < 149 ∨ 155 < id) → (id ≠ 147 ∨ (k ≠ 8 ∧ k ≠ 9 ∧ k ≠ 10 ∧ k ≠ 11 ∧ k ≠ 21 ∧ k ≠ 22)) → M' id k = M id k := by
  have e0 : (65 : Int32) * nI w = nI (65 * w) := by rw [show (65 : Int32) = nI 65 from rfl, pk_mul]
  obtain ⟨M0, eM0⟩ : ∃ m, m = mt_wr (mt_wr M 147 22 (nI (65 * w))) 147 21 0 := ⟨_, rfl⟩
  have z0 : M0 147 21 = 0 := by rw [eM0, mt_wr_s]
  have c0 : M0 147 22 = nI (65 * w) := by rw [eM0, mt_wr_n (by decide), mt_wr_s]
  have aO : ∀ id k, (id ≠ 147 ∨ (k ≠ 21 ∧ k ≠ 22)) → M0 id k = M id k := fun id k h => by
    rw [eM0, mt_wr_ne2 (by omega), mt_wr_ne2 (by omega)]
  obtain ⟨M7, p7, v7, c7, z7, f7⟩ := xm_arrR (B := fun m => mt_b2 (f_X12_passOne (m 147 8) m) fun r m => mt_lt (mt_wr m 147 8 r) fun m => mt_b2 (f_X12_passOne (m 147 9) m) fun r m => mt_lt (mt_wr m 147 9 r) fun m => mt_b2 (f_X12_passOne (m 147 10) m) fun r m => mt_lt (mt_wr m 147 10 r) fun m => mt_b2 (f_X12_passOne (m 147 11) m) fun r m => mt_lt (mt_wr m 147 11 r) fun m => some m) z0 c0 (by omega)
  obtain ⟨M11, p11, ⟨v8, v9, v10, v11⟩, f11⟩ := xm_fldsR (B := fun m => some m) z7 c7 (by omega)
  have k7 : ∀ k, M7 160 k = M 160 k := fun k => (f7 160 k (by decide) (Or.inl (by decide))).trans (aO _ _ (Or.inl (by decide)))
  refine ⟨M11, ?_, fun j hj => ?_, fun k => (f11 160 k (Or.inl (by decide))).trans (k7 k), fun id k h hk => ?_⟩
  · rw [xm_paEq, e0, mt_ck_t (Or.inl rfl), ← eM0, p7, p11]
  · by_cases h : j < 59
    · have e : rf M11 j = rf M7 j := by
        unfold rf
        simp only [f11 149 _ (Or.inl (by decide)), f11 150 _ (Or.inl (by decide)), f11 151 _ (Or.inl (by decide)), f11 152 _ (Or.inl (by decide)), f11 153 _ (Or.inl (by decide)), f11 154 _ (Or.inl (by decide)), f11 155 _ (Or.inl (by decide))]
        split; rfl
        split; rfl
        split; rfl
        split; rfl
        split; rfl
        split; rfl
        rfl
      rw [e, v7 j h]
      exact aO _ _ (Or.inl (by decide))
    · rcases (show j = 59 ∨ j = 60 ∨ j = 61 ∨ j = 62 by omega) with rfl | rfl | rfl | rfl
      · exact (rf_147 M11 (by decide)).trans (v8.trans (k7 _))
      · exact (rf_147 M11 (by decide)).trans (v9.trans (k7 _))
      · exact (rf_147 M11 (by decide)).trans (v10.trans (k7 _))
      · exact (rf_147 M11 (by decide)).trans (v11.trans (k7 _))
  · rw [f11 id k (by omega), f7 id k h (by omega)]
    exact aO id k (by omega)
theorem xm_thinks : ∃ M', f_X12_thinks M = some M' ∧ (∀ j, M' 160 j = if 130 ≤ j ∧ j < 193 then rf M (j - 130) else M 160 j) ∧ ∀ id k, id ≠ 160 → (id ≠ 147 ∨ (k ≠ 21 ∧ k ≠ 22)) → M' id k = M id k := by
  obtain ⟨M', h1, h2, h3⟩ := xm_allK (M := M) (w := 2) (by decide)
  refine ⟨M', ?_, h2, h3⟩
  have h1 : f_X12_passesAll 2 1 M = some M' := h1
  simp only [f_X12_thinks, h1, mt_b1_some]
theorem xm_forgets : ∃ M', f_X12_forgets M = some M' ∧ (∀ j, j < 63 → rf M' j = M 160 (130 + j)) ∧ (∀ k, M' 160 k = M 160 k) ∧ ∀ id k, (id < 149 ∨ 155 < id) → (id ≠ 147 ∨ (k ≠ 8 ∧ k ≠ 9 ∧ k ≠ 10 ∧ k ≠ 11 ∧ k ≠ 21 ∧ k ≠ 22)) → M' id k = M id k := by
  obtain ⟨M', h1, h2, h3, h4⟩ := xm_allR (M := M) (w := 2) (by decide)
  refine ⟨M', ?_, h2, h3, h4⟩
  have h1 : f_X12_passesAll 2 0 M = some M' := h1
  simp only [f_X12_forgets, h1, mt_b1_some]
end XK
/-- what a question leaves as it was: all that is told later -/
def mq (M M' : mt_M) : Prop := (∀ j, j < 63 → rf M' j = rf M j) ∧ (∀ j, j < 130 ∨ 195 ≤ j → M' 160 j = M 160 j) ∧ (∀ id k, id = 148 ∨ id = 156 ∨ id = 162 → M' id k = M id k) ∧ (∀ k, k = 16 ∨ k = 20 ∨ k = 23 ∨ k = 27 → M' 147 k = M 147 k) ∧ ∀ id k, id < 147 → M' id k = M id k
theorem mq.rfl' (M : mt_M) : mq M M := ⟨fun _ _ => rfl, fun _ _ => rfl, fun _ _ _ => rfl, fun _ _ => rfl, fun _ _ _ => rfl⟩
theorem mq.trans {M M1 M2 : mt_M} (a : mq M M1) (b : mq M1 M2) : mq M M2 := ⟨fun j h => (b.1 j h).trans (a.1 j h), fun j h => (b.2.1 j h).trans (a.2.1 j h), fun i k h => (b.2.2.1 i k h).trans (a.2.2.1 i k h), fun k h => (b.2.2.2.1 k h).trans (a.2.2.2.1 k h), fun i k h => (b.2.2.2.2 i k h).trans (a.2.2.2.2 i k h)⟩
/-- the weaker form: the place of the order's mind is free too -/
def mq1 (M M' : mt_M) : Prop := (∀ j, j < 63 → rf M' j = rf M j) ∧ (∀ j, j < 63 ∨ 195 ≤ j → M' 160 j = M 160 j) ∧ (∀ id k, id = 148 ∨ id = 156 ∨ id = 162 → M' id k = M id k) ∧ (∀ k, k = 16 ∨ k = 20 ∨ k = 23 ∨ k = 27 → M' 147 k = M 147 k) ∧ ∀ id k, id < 147 → M' id k = M id k
theorem mq.mq1 {M M' : mt_M} (h : mq M M') : mq1 M M' := ⟨h.1, fun j hj => h.2.1 j (by omega), h.2.2⟩
theorem mq1.trans {M M1 M2 : mt_M} (a : mq1 M M1) (b : mq1 M1 M2) : mq1 M M2 := ⟨fun j h => (b.1 j h).trans (a.1 j h), fun j h => (b.2.1 j h).trans (a.2.1 j h), fun i k h => (b.2.2.1 i k h).trans (a.2.2.1 i k h), fun k h => (b.2.2.2.1 k h).trans (a.2.2.2.1 k h), fun i k h => (b.2.2.2.2 i k h).trans (a.2.2.2.2 i k h)⟩
theorem mq1.rm {M M' : mt_M} {A : hs_A} (h : mq1 M M') (hr : rm M A) : rm M' A := rm_eq h.1 hr
theorem mq.rm {M M' : mt_M} {A : hs_A} (h : mq M M') (hr : rm M A) : rm M' A := rm_eq h.1 hr
/-- think, do, forget: only what is done between says anything -/
theorem xm_mind {M M1 M2 M3 : mt_M} (h1 : f_X12_thinks M = some M1) (h160 : ∀ j, 130 ≤ j → j < 193 → M2 160 j = M1 160 j) (h3 : f_X12_forgets M2 = some M3)
    (hk : ∀ j, j < 130 ∨ 195 ≤ j → M2 160 j = M1 160 j) (hi : ∀ id k, id = 148 ∨ id = 156 ∨ id = 162 → M2 id k = M1 id k) (hf : ∀ k, k = 16 ∨ k = 20 ∨ k = 23 ∨ k = 27 → M2 147 k = M1 147 k) (hl : ∀ id k, id < 147 → M2 id k = M1 id k) : mq M M3 := by
  obtain ⟨N1, a1, a2, a3⟩ := xm_thinks (M := M)
  obtain ⟨N3, b1, b2, b3, b4⟩ := xm_forgets (M := M2)
  obtain rfl := Option.some.inj (a1.symm.trans h1)
  obtain rfl := Option.some.inj (b1.symm.trans h3)
  refine ⟨fun j hj => ?_, fun j hj => ?_, fun id k h => ?_, fun k h => ?_, fun id k h => ?_⟩
  · rw [b2 j hj, h160 _ (by omega) (by omega), a2, if_pos (by omega)]
    exact congrArg (rf M) (by omega)
  · rw [b3, hk j hj, a2, if_neg (by omega)]
  · rw [b4 id k (by omega) (Or.inl (by omega)), hi id k h, a3 id k (by omega) (Or.inl (by omega))]
  · rw [b4 147 k (by omega) (Or.inr (by omega)), hf k h, a3 147 k (by decide) (Or.inr (by omega))]
  · rw [b4 id k (by omega) (Or.inl (by omega)), hl id k h, a3 id k (by omega) (Or.inl (by omega))]

/-! THE REFERENCE: orders, needs, waste, the cheapest -/
/-- tallies that never wrap -/
def hs_tb (A : hs_A) : Prop := A 6 4 ≤ 1000000 ∧ A 6 5 ≤ 1000000 ∧ A 6 6 ≤ 1000000
theorem rf_same {M M1 : mt_M} (h3 : ∀ id k, id ≠ 160 → (id ≠ 147 ∨ (k ≠ 21 ∧ k ≠ 22)) → M1 id k = M id k) {j : Nat} (hj : j < 63) : rf M1 j = rf M j := by
  unfold rf
  simp only [h3 149 _ (by decide) (Or.inl (by decide)), h3 150 _ (by decide) (Or.inl (by decide)), h3 151 _ (by decide) (Or.inl (by decide)), h3 152 _ (by decide) (Or.inl (by decide)), h3 153 _ (by decide) (Or.inl (by decide)), h3 154 _ (by decide) (Or.inl (by decide)), h3 155 _ (by decide) (Or.inl (by decide)), h3 147 (j - 51) (by decide) (Or.inr (by omega))]
/-- packs by a mask -/
def hs_gb (A : hs_A) (s : Nat) : Nat → hs_A
  | 0 => A
  | i + 1 => if s.testBit i = true then hs_buy (hs_gb A s i) i 1 else hs_gb A s i
theorem hs_ok_gb {A : hs_A} (h : hs_ok A) (s i : Nat) : hs_ok (hs_gb A s i) := by
  induction i with
  | zero => exact h
  | succ i ih =>
    simp only [hs_gb]
    split
    · exact hs_ok_buy ih i 1
    · exact ih
theorem hs_gb_6 (A : hs_A) (s i : Nat) {j : Nat} (h : j ≠ 4) : hs_gb A s i 6 j = A 6 j := by
  induction i with
  | zero => rfl
  | succ i ih =>
    simp only [hs_gb]
    split
    · rw [hs_buy_n _ _ _ h, ih]
    · exact ih
theorem hs_gb_r (A : hs_A) (s i : Nat) {j : Nat} (h3 : j ≠ 3) (h6 : j ≠ 6) : hs_gb A s i j = A j := by
  induction i with
  | zero => rfl
  | succ i ih =>
    simp only [hs_gb]
    split
    · rw [hs_buy_r _ _ _ h3 h6, ih]
    · exact ih
theorem hs_gb_3 (A : hs_A) (s i x : Nat) : hs_gb A s i 3 x = if x < i ∧ s.testBit x = true then sp_w A x 1 else A 3 x := by
  induction i with
  | zero => simp [hs_gb]
  | succ i ih =>
    simp only [hs_gb]
    by_cases h : s.testBit i = true
    · rw [if_pos h, hs_buy_3]
      by_cases q : x = i
      · subst q
        rw [if_pos rfl, if_pos ⟨by omega, h⟩]
        unfold sp_w
        rw [ih, if_neg (by omega), hs_gb_r _ _ _ (by decide) (by decide)]
      · rw [if_neg q, ih]
        by_cases z : x < i ∧ s.testBit x = true
        · rw [if_pos z, if_pos ⟨by omega, z.2⟩]
        · rw [if_neg z, if_neg (fun w => z ⟨by omega, w.2⟩)]
    · rw [if_neg h, ih]
      by_cases z : x < i ∧ s.testBit x = true
      · rw [if_pos z, if_pos ⟨by omega, z.2⟩]
      · rw [if_neg z, if_neg (fun w => z ⟨by
          have : x ≠ i := fun e => h (by rw [← e]; exact w.2)
          omega, w.2⟩)]
theorem sp_ls_gb (A : hs_A) (s : Nat) : sp_sm (hs_gb A s (A 6 0) 6 0) (fun t => sp_lN (hs_gb A s (A 6 0) 0 t) (hs_gb A s (A 6 0) 1 t) (hs_gb A s (A 6 0) 2 t) 7 (hs_gb A s (A 6 0) 3 t)) = sp_ls A s := by
  rw [hs_gb_6 _ _ _ (by decide), hs_gb_r _ _ _ (j := 0) (by decide) (by decide), hs_gb_r _ _ _ (j := 1) (by decide) (by decide), hs_gb_r _ _ _ (j := 2) (by decide) (by decide)]
  unfold sp_ls
  refine sp_sm_congr (fun i hi => ?_)
  rw [hs_gb_3]
  by_cases h : s.testBit i = true
  · rw [if_pos h, if_pos ⟨hi, h⟩]
  · rw [if_neg h, if_neg (fun w => h w.2)]
theorem mt_ckE {R : Type} [inst : Decidable True] (o : Option R) : @mt_ck R True inst o = o := mt_ck_t trivial
section XR2
variable {M : mt_M} {A : hs_A} {t : Nat}
theorem xr_priceAll (hv : rm M A) (hok : hs_ok A) {s : Nat} (hs : s < 128) : f_X12_priceOfAll (nI s) M = some (nI (sp_ps A s)) := by
  have hn := hok.1
  unfold f_X12_priceOfAll
  refine mt_lz2 (P := fun r => r = some (nI (sp_ps A s))) (fun i x y => x = nI (sp_sm i (fun t => if s.testBit t then sp_pr (A 0 t) (A 1 t) else 0)) ∧ y = nI i) (A 6 0) (by omega) ?_ ?_ ⟨rfl, rfl⟩
  · rintro i hi x y ⟨rfl, rfl⟩ k
    left
    have r1 := (xm_row hv hok hi).1
    refine ⟨_, _, ⟨rfl, rfl⟩, ?_⟩
    rw [hv.1.1, if_neg (nI_ge hi (by omega)), xm_has (by omega) (by omega)]
    simp only [mt_ltE, r1, mt_b1E, nI_1, sp_sm]
    by_cases q : s.testBit i = true
    · simp only [if_pos q, mt_10, if_false, nI_add]
    · simp only [if_neg q, if_true, mi_0, nI_add]
  · rintro x y ⟨rfl, rfl⟩ k
    rw [hv.1.1, if_pos (nI_le (Nat.le_refl _) (by omega))]
    rfl
theorem xr_lackWith (hv : rm M A) (hok : hs_ok A) {s : Nat} (hs : s < 128) : ∃ M', f_X12_lackingWith (nI s) M = some (nI (sp_ls A s), M') ∧ mq1 M M' := by
  have hn := hok.1
  obtain ⟨M1, k1, k2, k3⟩ := xm_allK (M := M) (w := 1) (by decide)
  have k1 : f_X12_passesAll 1 1 M = some M1 := k1
  have hv1 : rm M1 A := rm_eq (fun j hj => rf_same k3 hj) hv
  simp only [f_X12_lackingWith, k1, mt_b1E]
  refine mt_lz2 (P := fun r => ∃ M', r = some (nI (sp_ls A s), M') ∧ mq1 M M') (fun i x m => x = nI i ∧ rm m (hs_gb A s i) ∧ mi M1 m) (A 6 0) (by omega) ?_ ?_ ⟨rfl, hv1, mi.rfl' M1⟩
  · rintro i hi x m ⟨rfl, hm, hx⟩ k
    left
    have e0 : hs_gb A s i 6 0 = A 6 0 := hs_gb_6 _ _ _ (by decide)
    have h8 := hm.1.1
    rw [e0] at h8
    rw [h8, if_neg (nI_ge hi (by omega)), xm_has (by omega) (by omega)]
    simp only [mt_ltE, mt_b1E, nI_1]
    by_cases q : s.testBit i = true
    · obtain ⟨M', h1, h2, h3⟩ := xr_gets hm (hs_ok_gb hok s i) (t := i) (by omega)
      simp only [if_pos q, mt_10, if_false, h1, mt_b1E]
      exact ⟨_, _, ⟨rfl, by simp only [hs_gb, if_pos q]; exact h2, hx.trans h3⟩, rfl⟩
    · simp only [if_neg q, if_true]
      exact ⟨_, _, ⟨rfl, by simp only [hs_gb, if_neg q]; exact hm, hx⟩, rfl⟩
  · rintro x m ⟨rfl, hm, hx⟩ k
    have h8 := hm.1.1
    rw [hs_gb_6 _ _ _ (by decide)] at h8
    obtain ⟨N, n1, n2, -⟩ := xr_lackingIn hm (hs_ok_gb hok s (A 6 0)) (n := 7) (by decide)
    rw [sp_ls_gb] at n1
    have n1 : f_X12_lackingIn 7 m = some (nI (sp_ls A s), N) := n1
    obtain ⟨N3, g1, g2, g3, g4⟩ := xm_allR (M := N) (w := 1) (by decide)
    have g1 : f_X12_passesAll 1 0 N = some N3 := g1
    rw [h8, if_pos (nI_le (Nat.le_refl _) (by omega)), n1]
    simp only [mt_b2E, g1, mt_b1E]
    obtain ⟨q1, q2, q3, q4, q5⟩ := n2
    refine ⟨N3, rfl, fun j hj => ?_, fun j hj => ?_, fun id k h => ?_, fun k h => ?_, fun id k h => ?_⟩
    · rw [g2 j hj, q2 _ (by omega), hx 160 _ (by decide) (by decide) (Or.inl (by decide)), k2, if_pos (by omega)]
      exact congrArg (rf M) (by omega)
    · rw [g3, q2 _ (by omega), hx 160 _ (by decide) (by decide) (Or.inl (by decide)), k2, if_neg (by omega)]
    · rw [g4 id k (by omega) (Or.inl (by omega)), q3 id k h, hx id k (by omega) (by omega) (Or.inl (by omega)), k3 id k (by omega) (Or.inl (by omega))]
    · rw [g4 147 k (by omega) (Or.inr (by omega)), q4 k h, hx 147 k (by omega) (by omega) (Or.inr (by omega)), k3 147 k (by decide) (Or.inr (by omega))]
    · rw [g4 id k (by omega) (Or.inl (by omega)), q5 id k h, hx id k (by omega) (by omega) (Or.inl (by omega)), k3 id k (by omega) (Or.inl (by omega))]
/-- what order says -/
theorem sp_ls_0 (A : hs_A) : sp_ls A (sp_bs A 0 0) = sp_ls A 0 := rfl
theorem xr_order (hv : rm M A) (hok : hs_ok A) {v : Nat} (hvv : v ≤ 999) {w : Int32} (hw : w = 0 ∨ w = 1) : ∃ M', f_X12_order (nI v) w M = some (if w = 0 then nI (sp_bs A v (2 ^ A 6 0 - 1)) else nI (sp_ls A (sp_bs A v (2 ^ A 6 0 - 1))), M') ∧ mq1 M M' := by
  have hn := hok.1
  obtain ⟨p1, p2⟩ := sp_pw (A 6 0) hn
  obtain ⟨M1, h1, x1⟩ := xr_lackWith hv hok (s := 0) (by decide)
  have h1 : f_X12_lackingWith 0 M = some (nI (sp_ls A 0), M1) := h1
  have eb : f_X12_bound (nI v) 0 999 = some 0 := by
    unfold f_X12_bound
    rw [if_pos (nI_pos' (by omega)), if_pos (by rw [mi_999]; exact nI_le hvv (by decide))]
  have ei : f_X12_isIn w 0 1 = some 1 := by rcases hw with rfl | rfl <;> rfl
  simp only [f_X12_order, eb, ei, mt_b1E, mt_ltE, if_true, mt_10, if_false, h1, mt_b2E]
  refine mt_lz4 (P := fun r => ∃ M', r = some (if w = 0 then nI (sp_bs A v (2 ^ A 6 0 - 1)) else nI (sp_ls A (sp_bs A v (2 ^ A 6 0 - 1))), M') ∧ mq1 M M') (fun i x y z m => x = nI (sp_bs A v i) ∧ y = nI (sp_ls A (sp_bs A v i)) ∧ z = nI (i + 1) ∧ mq1 M m) (2 ^ A 6 0 - 1) (by omega) ?_ ?_ ⟨rfl, rfl, rfl, x1⟩
  · rintro i hi x y z m ⟨rfl, rfl, rfl, hm⟩ k
    left
    have hvm := hm.rm hv
    have l1 := sp_ls_le hok (i + 1)
    have l2 := sp_ls_le hok (sp_bs A v i)
    have l3 := sp_ps_le hok (i + 1)
    rw [hvm.1.1, nx_shl (by omega), if_neg (nI_ge (show i + 1 < 2 ^ A 6 0 by omega) (by omega)), xr_priceAll hvm hok (show i + 1 < 128 by omega)]
    simp only [mt_b1E, mt_ltE, nI_1]
    by_cases q1 : v < sp_ps A (i + 1)
    · rw [if_neg (nI_ge q1 (by omega))]
      refine ⟨_, _, _, m, ⟨?_, ?_, rfl, hm⟩, rfl⟩
      · simp only [sp_bs]; rw [if_neg (by omega)]
      · simp only [sp_bs]; rw [if_neg (by omega)]
    · rw [if_pos (nI_le (by omega) (by omega))]
      obtain ⟨N, n1, n2⟩ := xr_lackWith hvm hok (s := i + 1) (by omega)
      rw [n1, mt_b2E]
      by_cases q2 : sp_ls A (i + 1) < sp_ls A (sp_bs A v i)
      · rw [if_pos (nI_lt q2 (by omega))]
        refine ⟨_, _, _, N, ⟨?_, ?_, rfl, hm.trans n2⟩, rfl⟩
        · simp only [sp_bs]; rw [if_pos (by omega)]
        · simp only [sp_bs]; rw [if_pos (by omega)]
      · rw [if_neg (nI_nlt (by omega) (by omega))]
        refine ⟨_, _, _, N, ⟨?_, ?_, rfl, hm.trans n2⟩, rfl⟩
        · simp only [sp_bs]; rw [if_neg (by omega)]
        · simp only [sp_bs]; rw [if_neg (by omega)]
  · rintro x y z m ⟨rfl, rfl, rfl, hm⟩ k
    rw [(hm.rm hv).1.1, nx_shl (by omega), if_pos (nI_le (show 2 ^ A 6 0 ≤ 2 ^ A 6 0 - 1 + 1 by omega) (by omega))]
    rcases hw with rfl | rfl
    · simp only [if_true]; exact ⟨m, rfl, hm⟩
    · simp only [mt_10, if_false]; exact ⟨m, rfl, hm⟩
theorem mq_w152 {M M' : mt_M} (h : mq M M') {t : Nat} (ht : t < 7) (x : Int32) : mq (mt_wr M 152 t x) (mt_wr M' 152 t x) := by
  obtain ⟨q1, q2, q3, q4, q5⟩ := h
  refine ⟨fun j hj => ?_, fun j hj => ?_, fun id k h => ?_, fun k h => ?_, fun id k h => ?_⟩
  · have e : ∀ m : mt_M, rf (mt_wr m 152 t x) j = if j = 21 + t then x else rf m j := fun m => by
      by_cases z : 21 ≤ j ∧ j < 28
      · rw [rf_152 _ z.1 z.2, rf_152 _ z.1 z.2]
        by_cases w : j = 21 + t
        · subst w; rw [if_pos rfl, show 21 + t - 21 = t by omega, mt_wr_s]
        · rw [if_neg w, mt_wr_n (by omega)]
      · rw [if_neg (by omega)]
        unfold rf
        simp only [mt_wr_ne (show (149 : Nat) ≠ 152 by decide), mt_wr_ne (show (150 : Nat) ≠ 152 by decide), mt_wr_ne (show (151 : Nat) ≠ 152 by decide), mt_wr_ne (show (153 : Nat) ≠ 152 by decide), mt_wr_ne (show (154 : Nat) ≠ 152 by decide), mt_wr_ne (show (155 : Nat) ≠ 152 by decide), mt_wr_ne (show (147 : Nat) ≠ 152 by decide)]
        by_cases a1 : j < 7
        · rw [if_pos a1, if_pos a1]
        · rw [if_neg a1, if_neg a1]
          by_cases a2 : j < 14
          · rw [if_pos a2, if_pos a2]
          · rw [if_neg a2, if_neg a2]
            by_cases a3 : j < 21
            · rw [if_pos a3, if_pos a3]
            · rw [if_neg a3, if_neg a3, if_neg (show ¬ j < 28 by omega), if_neg (show ¬ j < 28 by omega)]
    rw [e, e, q1 j hj]
  · rw [mt_wr_ne (by decide), mt_wr_ne (by decide)]; exact q2 j hj
  · rw [mt_wr_ne (by omega), mt_wr_ne (by omega)]; exact q3 id k h
  · rw [mt_wr_ne (by decide), mt_wr_ne (by decide)]; exact q4 k h
  · rw [mt_wr_ne (by omega), mt_wr_ne (by omega)]; exact q5 id k h
theorem xr_needs (hv : rm M A) (hok : hs_ok A) (ht : t < A 6 0) {n : Nat} (hn1 : 1 ≤ n) (hn : n ≤ 30) : ∃ M', f_X12_needs (nI t) (nI n) M = some (sp_ov (sp_nd A t n), M') ∧ mq M M' := by
  have h7 := hok.1
  have hin : vp_in (nI t) 7 := vp_in_nI (by omega) (by omega)
  have hcl : (nI t).toNatClampNeg = t := nI_clamp (by omega)
  have eb : f_X12_notMonth (nI n) = some 0 := by
    unfold f_X12_notMonth f_X12_bound
    rw [if_pos (show (1 : Int32) ≤ nI n from nI_le hn1 (by omega)), if_pos (by rw [mi_30]; exact nI_le hn (by decide))]
    rfl
  have pos : sp_nd A t n ≠ none → 0 ≤ sp_ov (sp_nd A t n) := fun h => (sp_ov_neg (fun i hi => by
    have := (sp_find_lt hi).1
    rw [sp_e100] at this
    omega)).2.1.mpr h
  have ex : ∀ (x : Int32) (m : mt_M), mq M (mt_wr m 152 t (M 152 t)) → ∃ M', (mt_ci (nI t) 7 (some (x, mt_wr m 152 t (M 152 t)))) = some (x, M') ∧ mq M M' := fun x m h => ⟨_, mt_ci_t hin, h⟩
  simp only [f_X12_needs, xm_isT hv h7 ht, mt_b1E, mt_ltE, mt_10, if_false, eb, if_true, mt_ci_t hin, hcl]
  refine mt_lz3 (P := fun r => ∃ M', r = some (sp_ov (sp_nd A t n), M') ∧ mq M M') (fun i x y m => mq M (mt_wr m 152 t (M 152 t)) ∧ ((x = -9 ∧ y = nI i ∧ ∀ j, j < i → (sp_lN (A 0 t) (A 1 t) (A 2 t) n j == 0) = false) ∨ (x = sp_ov (sp_nd A t n) ∧ sp_nd A t n ≠ none))) 100 (by decide) ?_ ?_ ⟨by rw [mt_wr_id]; exact mq.rfl' M, Or.inl ⟨rfl, rfl, fun j hj => absurd hj (by omega)⟩⟩
  · rintro i hi x y m ⟨hm, ⟨rfl, rfl, hno⟩ | ⟨rfl, hne⟩⟩ k
    · left
      have hv2 := rm_w152 (hm.rm hv) t i
      rw [mt_wr_wr] at hv2
      have ok2 := hs_ok_up3 hok t (v := i) (by omega)
      have t2 : t < hs_up A 3 t i 6 0 := by rw [hs_up_r _ (by decide)]; exact ht
      obtain ⟨N, n1, n2⟩ := xr_suffices hv2 ok2 t2 (k := 0) (n := n) (by decide) (by omega)
      have ew : sp_w (hs_up A 3 t i) t 0 = i := by unfold sp_w; rw [hs_up_s]; omega
      rw [ew, hs_up_r _ (by decide), hs_up_r _ (by decide), hs_up_r _ (by decide)] at n1
      have n1 : f_X12_suffices (nI t) 0 (nI n) (mt_wr m 152 t (nI i)) = some (if sp_lN (A 0 t) (A 1 t) (A 2 t) n i = 0 then 1 else 0, N) := n1
      have hN : mq M (mt_wr N 152 t (M 152 t)) := by
        have h3 := mq_w152 n2 (show t < 7 by omega) (M 152 t)
        rw [mt_wr_wr] at h3
        exact hm.trans h3
      rw [mi_99, if_neg (nI_nlt (show i ≤ 99 by omega) (by omega)), if_neg (show ¬ (0 : Int32) ≤ -9 by decide), n1]
      simp only [mt_b2E, nI_1]
      by_cases hl : sp_lN (A 0 t) (A 1 t) (A 2 t) n i = 0
      · simp only [if_pos hl, mt_10, if_false]
        have e : sp_nd A t n = some i := by
          unfold sp_nd
          rw [sp_find_some (by rw [sp_e100]; exact hi) (by simpa using hl) hno]
        exact ⟨_, _, N, ⟨hN, Or.inr ⟨by rw [e]; rfl, by rw [e]; exact fun h => by cases h⟩⟩, rfl⟩
      · simp only [if_neg hl, if_true]
        refine ⟨_, _, N, ⟨hN, Or.inl ⟨rfl, rfl, ?_⟩⟩, rfl⟩
        intro j hj
        by_cases q : j = i
        · subst q; simpa using hl
        · exact hno j (by omega)
    · right
      rw [if_pos (pos hne), ite_self]
      exact ⟨_, rfl, hm⟩
  · rintro x y m ⟨hm, ⟨rfl, rfl, hno⟩ | ⟨rfl, hne⟩⟩ k
    · have e : sp_nd A t n = none := by
        unfold sp_nd
        rw [sp_find_none (by rw [sp_e100]; exact hno)]
      rw [mi_99, if_pos (nI_lt (by decide) (by decide)), e]
      exact ⟨_, rfl, hm⟩
    · rw [if_pos (pos hne), ite_self]
      exact ⟨_, rfl, hm⟩
theorem xr_wasted (hv : rm M A) (hok : hs_ok A) (htb : hs_tb A) (ht : t < A 6 0) {k n : Nat} (hk : k ≤ 1000) (hn : n ≤ 1000) : ∃ M', f_X12_isWasted (nI t) (nI k) (nI n) M = some (if sp_ws A t n k = true then 0 else 1, M') ∧ mq M M' := by
  obtain ⟨M1, hT, hv1, hF⟩ := xr_mind hv
  obtain ⟨bk, bf, bu, bs⟩ := hok.2 t ht
  obtain ⟨B, eB⟩ : ∃ B, B = hs_gets A t k := ⟨_, rfl⟩
  have okB : hs_ok B := by rw [eB]; exact hs_ok_gets hok t k
  have B0 : B 6 0 = A 6 0 := by rw [eB]; exact hs_gets_6 _ _ _ (by decide)
  have B6 : B 6 6 = A 6 6 := by rw [eB]; exact hs_gets_6 _ _ _ (by decide)
  have tB : t < B 6 0 := by rw [B0]; exact ht
  have Br : ∀ j, j ≠ 3 → j ≠ 6 → B j = A j := fun j h3 h6 => by rw [eB]; exact hs_gets_r _ _ _ h3 h6
  have B3 : B 3 t = sp_w A t k := by rw [eB]; exact hs_gets_3 A t k bs
  have e6 := hv1.1.2.2.2.2.2.2
  simp only [f_X12_isWasted, hT, mt_b1E, mt_ltE, mc_2, e6]
  refine mt_lz2 (P := fun r => ∃ M', r = some (if sp_ws A t n k = true then 0 else 1, M') ∧ mq M M') (fun i x m => x = nI i ∧ rm m (hs_gets A t i) ∧ mi M1 m) k (by omega) ?_ ?_ ⟨rfl, hv1, mi.rfl' M1⟩
  · rintro i hi x m ⟨rfl, hm, hx⟩ kk
    left
    obtain ⟨M', h1, h2, h3⟩ := xr_gets hm (hs_ok_gets hok t i) (t := t) (by rw [hs_gets_6 _ _ _ (by decide)]; exact ht)
    refine ⟨_, _, ⟨rfl, h2, hx.trans h3⟩, ?_⟩
    rw [if_neg (nI_ge hi (by omega)), h1]
    simp only [mt_b1E, nI_1]
  · rintro x m ⟨rfl, hm, hx⟩ kk
    rw [if_pos (nI_le (Nat.le_refl _) (by omega))]
    rw [← eB] at hm
    refine mt_lz2 (P := fun r => ∃ M', r = some (if sp_ws A t n k = true then 0 else 1, M') ∧ mq M M') (fun i x m => x = nI i ∧ rm m (hs_one B t i) ∧ mi M1 m) n (by omega) ?_ ?_ ⟨rfl, hm, hx⟩
    · rintro i hi x m ⟨rfl, hm, hx⟩ k2
      left
      obtain ⟨M', h1, h2, h3⟩ := xr_uses hm (hs_ok_one okB tB i) (t := t) (by rw [hs_one_6 _ _ _ (by decide) (by decide)]; exact tB)
      refine ⟨_, _, ⟨rfl, h2, hx.trans h3⟩, ?_⟩
      rw [if_neg (nI_ge hi (by omega)), h1]
      simp only [mt_b2E, nI_1]
    · rintro x m ⟨rfl, hm, hx⟩ k2
      have e6 := hm.1.2.2.2.2.2.2
      rw [hs_one_66, B6, Br 0 (by decide) (by decide), Br 1 (by decide) (by decide), Br 2 (by decide) (by decide), B3] at e6
      obtain ⟨M3, g1, g2⟩ := hF m hx
      have hb := sp_qN_le (A 0 t) (A 1 t) (A 2 t) n (Nat.min_le_left 99 (A 3 t + k * sp_pk (A 0 t)))
      have hb2 : 99 * n ≤ 99 * 1000 := Nat.mul_le_mul (Nat.le_refl _) hn
      have hb3 : sp_qN (A 0 t) (A 1 t) (A 2 t) n (sp_w A t k) ≤ 99000 := Nat.le_trans hb hb2
      have htb6 := htb.2.2
      have hws : (sp_ws A t n k = true) = (sp_qN (A 0 t) (A 1 t) (A 2 t) n (sp_w A t k) = 0) := by unfold sp_ws; simp
      rw [if_pos (nI_le (Nat.le_refl _) (by omega)), e6, g1]
      simp only [mt_b1E]
      by_cases z : sp_qN (A 0 t) (A 1 t) (A 2 t) n (sp_w A t k) = 0
      · rw [if_pos (nI_le (by omega) (by omega)), if_pos (by rw [hws]; exact z)]
        simp only [true_or, or_true, mt_ckE]
        exact ⟨M3, rfl, g2⟩
      · rw [if_neg (nI_ge (by omega) (by omega)), if_neg (by rw [hws]; exact z)]
        simp only [true_or, or_true, mt_ckE]
        exact ⟨M3, rfl, g2⟩
theorem xr_noWaste (hv : rm M A) (hok : hs_ok A) (htb : hs_tb A) (ht : t < A 6 0) {n : Nat} (hn1 : 1 ≤ n) (hn : n ≤ 30) : ∃ M', f_X12_noWaste (nI t) (nI n) M = some (sp_ov (sp_nw A t n), M') ∧ mq M M' := by
  have h7 := hok.1
  have eb : f_X12_notMonth (nI n) = some 0 := by
    unfold f_X12_notMonth f_X12_bound
    rw [if_pos (show (1 : Int32) ≤ nI n from nI_le hn1 (by omega)), if_pos (by rw [mi_30]; exact nI_le hn (by decide))]
    rfl
  simp only [f_X12_noWaste, xm_isT hv h7 ht, mt_b1E, mt_ltE, mt_10, if_false, eb, if_true]
  refine mt_lz3 (P := fun r => ∃ M', r = some (sp_ov (sp_nw A t n), M') ∧ mq M M') (fun i x y m => x = sp_ov (sp_last (sp_ws A t n) i) ∧ y = nI i ∧ mq M m ∧ (0 < i → sp_ws A t n 0 = true)) 21 (by decide) ?_ ?_ ⟨rfl, rfl, mq.rfl' M, fun h => absurd h (by decide)⟩
  · rintro i hi x y m ⟨rfl, rfl, hm, h0⟩ k
    obtain ⟨N, n1, n2⟩ := xr_wasted (hm.rm hv) hok htb ht (k := 0) (n := n) (by decide) (by omega)
    have n1 : f_X12_isWasted (nI t) 0 (nI n) m = some (if sp_ws A t n 0 = true then 0 else 1, N) := n1
    rw [mi_20, if_neg (nI_nlt (show i ≤ 20 by omega) (by omega)), n1]
    simp only [mt_b2E, nI_1]
    by_cases hz : sp_ws A t n 0 = true
    · left
      obtain ⟨N2, p1, p2⟩ := xr_wasted (n2.rm (hm.rm hv)) hok htb ht (k := i) (n := n) (by omega) (by omega)
      simp only [if_pos hz, if_true, p1, mt_b2E]
      by_cases hl : sp_ws A t n i = true
      · simp only [if_pos hl, if_true]
        refine ⟨_, _, N2, ⟨?_, rfl, (hm.trans n2).trans p2, fun _ => hz⟩, rfl⟩
        simp only [sp_last, if_pos hl]; rfl
      · simp only [if_neg hl, mt_10, if_false]
        refine ⟨_, _, N2, ⟨?_, rfl, (hm.trans n2).trans p2, fun _ => hz⟩, rfl⟩
        simp only [sp_last, if_neg hl]
    · right
      simp only [if_neg hz, mt_10, if_false]
      have hi0 : i = 0 := by
        by_cases q : i = 0
        · exact q
        · exact absurd (h0 (by omega)) hz
      subst hi0
      have e : sp_nw A t n = none := by unfold sp_nw; rw [if_neg hz]
      rw [e]
      exact ⟨N, rfl, hm.trans n2⟩
  · rintro x y m ⟨rfl, rfl, hm, h0⟩ k
    rw [mi_20, if_pos (nI_lt (by decide) (by decide))]
    have e : sp_nw A t n = sp_last (sp_ws A t n) 21 := by unfold sp_nw; rw [if_pos (h0 (by decide)), sp_e21]
    rw [e]
    exact ⟨m, rfl, hm⟩
/-- buyFor of all -/
theorem xr_penceAll (hv : rm M A) (hok : hs_ok A) {n : Nat} (hn1 : 1 ≤ n) (hn : n ≤ 30) : ∃ M', f_X12_buyFor (-1) (nI n) M = some (nI (sp_sm (A 6 0) (fun t => sp_gv (sp_co A n t))), M') ∧ mq M M' := by
  have h7 := hok.1
  have eb : f_X12_bound (nI n) 1 30 = some 0 := by
    unfold f_X12_bound
    rw [if_pos (show (1 : Int32) ≤ nI n from nI_le hn1 (by omega)), if_pos (by rw [mi_30]; exact nI_le hn (by decide))]
  simp only [f_X12_buyFor, mt_ltE, if_true, eb, mt_b1E]
  rw [if_pos (show (-1 : Int32) < 0 by decide)]
  refine mt_lz3 (P := fun r => ∃ M', r = some (nI (sp_sm (A 6 0) (fun t => sp_gv (sp_co A n t))), M') ∧ mq M M') (fun i x y m => x = nI (sp_sm i (fun t => sp_gv (sp_co A n t))) ∧ y = nI i ∧ mq M m) (A 6 0) (by omega) ?_ ?_ ⟨rfl, rfl, mq.rfl' M⟩
  · rintro i hi x y m ⟨rfl, rfl, hm⟩ k
    left
    have hvm := hm.rm hv
    obtain ⟨N, n1, n2⟩ := xr_packs hvm hok hi (n := n) (by omega)
    obtain ⟨N2, p1, p2⟩ := xr_packs (n2.rm hvm) hok hi (n := n) (by omega)
    have r1 := (xm_row (p2.rm (n2.rm hvm)) hok hi).1
    rw [hvm.1.1, if_neg (nI_ge hi (by omega)), n1]
    simp only [mt_b2E, nI_1, p1, r1, mt_b1E, pk_mul, sp_sm]
    unfold sp_co
    cases q : sp_pf A i n with
    | none =>
      have e : sp_pks A i n = 99 := (sp_pks_99 A i n).1.mpr q
      rw [e, if_pos (show nI 99 = 99 from rfl), mi_0, nI_add]
      exact ⟨_, _, N, ⟨rfl, rfl, hm.trans n2⟩, rfl⟩
    | some j =>
      have e : sp_pks A i n = j := by unfold sp_pks; rw [q]
      have hj := sp_pf_lt q
      rw [e, mi_99, if_neg (fun z => by have := (nI_eq (by omega) (by omega)).mp z; omega), nI_add]
      exact ⟨_, _, N2, ⟨rfl, rfl, (hm.trans n2).trans p2⟩, rfl⟩
  · rintro x y m ⟨rfl, rfl, hm⟩ k
    rw [(hm.rm hv).1.1, if_pos (nI_le (Nat.le_refl _) (by omega))]
    exact ⟨m, rfl, hm⟩
/-- the cheapest among a mask -/
theorem xr_cheap1 (hv : rm M A) (hok : hs_ok A) {n : Nat} (hn : n ≤ 30) {s : Nat} (hs : s < 128) : ∃ M', f_X12_cheapestOf (nI s) (nI n) M = some (sp_ov (sp_chT (fun t => if s.testBit t = true then sp_co A n t else none) (A 6 0)), M') ∧ mq M M' := by
  have h7 := hok.1
  obtain ⟨g, eg⟩ : ∃ g : Nat → Option Nat, g = fun t => if s.testBit t = true then sp_co A n t else none := ⟨_, rfl⟩
  have gT : ∀ t, s.testBit t = true → g t = sp_co A n t := fun t h => by rw [eg]; exact if_pos h
  have gF : ∀ t, ¬ s.testBit t = true → g t = none := fun t h => by rw [eg]; exact if_neg h
  rw [← eg]
  unfold f_X12_cheapestOf
  refine mt_lz3 (P := fun r => ∃ M', r = some (sp_ov (sp_chT g (A 6 0)), M') ∧ mq M M') (fun i x y m => x = sp_ov (sp_chT g i) ∧ y = nI i ∧ mq M m) (A 6 0) (by omega) ?_ ?_ ⟨rfl, rfl, mq.rfl' M⟩
  · rintro i hi x y m ⟨rfl, rfl, hm⟩ k
    left
    have hvm := hm.rm hv
    rw [hvm.1.1, if_neg (nI_ge hi (by omega)), xm_has (by omega) (by omega)]
    simp only [mt_b1E, mt_ltE, nI_1]
    by_cases hb : s.testBit i = true
    · simp only [if_pos hb, mt_10, if_false]
      have gi := gT i hb
      obtain ⟨N, n1, n2⟩ := xr_packs hvm hok hi (n := n) (by omega)
      rw [n1]
      simp only [mt_b2E]
      cases q : sp_pf A i n with
      | none =>
        have e : sp_pks A i n = 99 := (sp_pks_99 A i n).1.mpr q
        have e2 : g i = none := by rw [gi]; unfold sp_co; rw [q]
        rw [e, if_pos (show nI 99 = 99 from rfl)]
        exact ⟨_, _, N, ⟨by simp only [sp_chT, e2], rfl, hm.trans n2⟩, rfl⟩
      | some j =>
        have e : sp_pks A i n = j := by unfold sp_pks; rw [q]
        have hj := sp_pf_lt q
        have e2 : g i = some (j * sp_pr (A 0 i) (A 1 i)) := by rw [gi]; unfold sp_co; rw [q]
        have bi := sp_co_le hok hi (gi.symm.trans e2)
        rw [e, mi_99, if_neg (fun z => by have := (nI_eq (by omega) (by omega)).mp z; omega)]
        cases q2 : sp_chT g i with
        | none =>
          rw [if_pos (show sp_ov none < 0 by decide)]
          exact ⟨_, _, N, ⟨by simp only [sp_chT, e2, q2]; rfl, rfl, hm.trans n2⟩, rfl⟩
        | some p =>
          have hp := sp_chT_lt q2
          have hpb : s.testBit p = true := by
            by_cases z : s.testBit p = true
            · exact z
            · exact absurd (gF p z) hp.2
          have gp := gT p hpb
          have hpi : p < A 6 0 := by omega
          rw [if_neg (show ¬ sp_ov (some p) < 0 from nI_pos (by omega))]
          have hvN := n2.rm hvm
          obtain ⟨N2, p1, p2⟩ := xr_packs hvN hok hi (n := n) (by omega)
          have hvN2 := p2.rm hvN
          have r1 := (xm_row hvN2 hok hi).1
          obtain ⟨N3, p3, p4⟩ := xr_packs hvN2 hok hpi (n := n) (by omega)
          have r2 := (xm_row (p4.rm hvN2) hok hpi).1
          cases q3 : sp_pf A p n with
          | none => exact absurd (by rw [gp]; unfold sp_co; rw [q3]) hp.2
          | some j2 =>
            have e3 : sp_pks A p n = j2 := by unfold sp_pks; rw [q3]
            have e4 : g p = some (j2 * sp_pr (A 0 p) (A 1 p)) := by rw [gp]; unfold sp_co; rw [q3]
            have bp := sp_co_le hok hpi (gp.symm.trans e4)
            rw [e] at p1
            rw [e3] at p3
            have p3 : f_X12_packsFor (sp_ov (some p)) (nI n) N2 = some (nI j2, N3) := p3
            have r2 : f_X12_priceOf (sp_ov (some p)) N3 = some (nI (sp_pr (A 0 p) (A 1 p))) := r2
            rw [p1]
            simp only [mt_b2E, r1, mt_b1E, p3, r2, pk_mul]
            by_cases z : j2 * sp_pr (A 0 p) (A 1 p) ≤ j * sp_pr (A 0 i) (A 1 i)
            · rw [if_pos (nI_le z (by omega))]
              refine ⟨_, _, N3, ⟨?_, rfl, ((hm.trans n2).trans p2).trans p4⟩, rfl⟩
              simp only [sp_chT, e2, q2, e4]
              rw [if_pos (show sp_gv (some (j2 * sp_pr (A 0 p) (A 1 p))) ≤ j * sp_pr (A 0 i) (A 1 i) from z)]
            · rw [if_neg (nI_ge (by omega) (by omega))]
              refine ⟨_, _, N3, ⟨?_, rfl, ((hm.trans n2).trans p2).trans p4⟩, rfl⟩
              simp only [sp_chT, e2, q2, e4]
              rw [if_neg (show ¬ sp_gv (some (j2 * sp_pr (A 0 p) (A 1 p))) ≤ j * sp_pr (A 0 i) (A 1 i) from z)]
              rfl
    · simp only [if_neg hb, if_true]
      exact ⟨_, _, m, ⟨by simp only [sp_chT, gF i hb], rfl, hm⟩, rfl⟩
  · rintro x y m ⟨rfl, rfl, hm⟩ k
    rw [(hm.rm hv).1.1, if_pos (nI_le (Nat.le_refl _) (by omega))]
    exact ⟨m, rfl, hm⟩
theorem xr_cheapest (hv : rm M A) (hok : hs_ok A) {n : Nat} (hn1 : 1 ≤ n) (hn : n ≤ 30) {c : Nat} (hc : c ≤ 7) : ∃ M', f_X12_cheapest (nI c) (nI n) M = some (sp_ov (sp_fv (sp_co A n) (A 6 0) c), M') ∧ mq M M' := by
  have h7 := hok.1
  simp only [f_X12_cheapest, mt_ltE, if_true]
  rw [if_neg (nI_pos (show c < 2 ^ 31 by omega)), if_pos (show (1 : Int32) ≤ nI n from nI_le hn1 (by omega)), mi_7, if_neg (nI_nlt hc (by omega)), mi_30, if_pos (nI_le hn (by omega))]
  refine mt_lz4 (P := fun r => ∃ M', r = some (sp_ov (sp_fv (sp_co A n) (A 6 0) c), M') ∧ mq M M') (fun i x y z m => ∃ s g w, sp_fw (sp_co A n) (A 6 0) i = some (s, g) ∧ x = nI w ∧ w < 128 ∧ y = nI s ∧ z = nI i ∧ mq M m ∧ ∀ t, t < A 6 0 → g t = if w.testBit t = true then sp_co A n t else none) c (by omega) ?_ ?_ ⟨0, sp_co A n, 127, rfl, rfl, by decide, rfl, rfl, mq.rfl' M, ?_⟩
  · rintro i hi x y z m ⟨s, g, w, e1, rfl, hw, rfl, rfl, hm, hg⟩ k
    have hvm := hm.rm hv
    obtain ⟨N, n1, n2⟩ := xr_cheap1 hvm hok hn hw
    have ech := sp_chT_congr (fun t ht => hg t ht)
    rw [← ech] at n1
    rw [if_neg (nI_ge hi (by omega)), n1]
    simp only [mt_b2E]
    cases q : sp_chT g (A 6 0) with
    | none =>
      right
      rw [if_neg (show ¬ (0 : Int32) ≤ sp_ov none by decide)]
      have e2 : sp_fw (sp_co A n) (A 6 0) (i + 1) = none := by simp only [sp_fw, e1, q]
      have e3 : sp_fv (sp_co A n) (A 6 0) c = none := by unfold sp_fv; rw [sp_fw_none e2 c (by omega)]
      rw [e3]
      exact ⟨N, rfl, hm.trans n2⟩
    | some p =>
      left
      have hp := sp_chT_lt q
      have hpb : w.testBit p = true := by
        by_cases z : w.testBit p = true
        · exact z
        · exact absurd (by rw [hg p hp.1, if_neg z]) hp.2
      have hgp : g p = sp_co A n p := by rw [hg p hp.1, if_pos hpb]
      have e2 : sp_fw (sp_co A n) (A 6 0) (i + 1) = some (s + sp_gv (g p), sp_off g p) := by simp only [sp_fw, e1, q]
      have hvN := n2.rm hvm
      obtain ⟨N2, p1, p2⟩ := xr_packs hvN hok hp.1 (n := n) (by omega)
      have r1 := (xm_row (p2.rm hvN) hok hp.1).1
      cases q3 : sp_pf A p n with
      | none => exact absurd (by rw [hgp]; unfold sp_co; rw [q3]) hp.2
      | some j =>
        have e3 : sp_pks A p n = j := by unfold sp_pks; rw [q3]
        have e4 : sp_gv (g p) = j * sp_pr (A 0 p) (A 1 p) := by rw [hgp]; unfold sp_co; rw [q3]; rfl
        rw [e3] at p1
        have p1 : f_X12_packsFor (sp_ov (some p)) (nI n) N = some (nI j, N2) := p1
        have r1 : f_X12_priceOf (sp_ov (some p)) N2 = some (nI (sp_pr (A 0 p) (A 1 p))) := r1
        rw [if_pos (show (0 : Int32) ≤ sp_ov (some p) from nI_pos' (by omega)), p1]
        simp only [mt_b2E, r1, mt_b1E, pk_mul, nI_add, nI_1]
        refine ⟨nI (sp_an w (2 ^ p)), _, _, N2, ⟨_, _, sp_an w (2 ^ p), e2, rfl, sp_lt7 (n := 7) (sp_an_lt hw) (by decide), rfl, rfl, (hm.trans n2).trans p2, ?_⟩, ?_⟩
        · intro t ht
          unfold sp_off
          rw [sp_an_t]
          by_cases z : t = p
          · subst z; rw [if_pos rfl, Nat.testBit_two_pow_self, if_neg (by simp)]
          · rw [if_neg z, hg t ht, Nat.testBit_two_pow_of_ne (Ne.symm z)]
            simp
        · rw [show (1 : Int32) <<< (sp_ov (some p) &&& 31) = nI (2 ^ p) from nx_shl (by omega), nx_andn, e4]
  · rintro x y z m ⟨s, g, w, e1, rfl, hw, rfl, rfl, hm, hg⟩ k
    rw [if_pos (nI_le (Nat.le_refl _) (by omega))]
    have e3 : sp_fv (sp_co A n) (A 6 0) c = some s := by unfold sp_fv; rw [e1]
    rw [e3]
    exact ⟨m, rfl, hm⟩
  · intro t ht
    have h127 : ∀ t, t < 7 → (127 : Nat).testBit t = true := by decide
    rw [if_pos (h127 t (by omega))]
end XR2

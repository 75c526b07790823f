/-! HOUSES KEPT, ON BOTH SIDES -/
def hC (M : mt_M) (n q : Nat) (B : Nat → hs_A) : Prop := q < 8 ∧ n ≤ 8 ∧ M 43 1 = nI q ∧ M 43 2 = nI n ∧ ∀ i, i < n → hs_wf (B i) ∧ hv (45 + 11 * ((q + 8 - n + i) % 8)) M (B i)
def hR (M : mt_M) (n : Nat) (B : Nat → hs_A) : Prop := n ≤ 8 ∧ M 147 23 = nI n ∧ ∀ i, i < n → rv (fun j => M 160 (195 + 65 * i + j)) (B i)
theorem rH_sp {M : mt_M} {n q : Nat} (h : rH M n q) : ∃ B, hC M n q B ∧ hR M n B := by
  obtain ⟨a, b, c, d, e, f⟩ := h
  obtain ⟨B, hB⟩ : ∃ B : Nat → hs_A, ∀ i, i < n → hs_wf (B i) ∧ hv (45 + 11 * ((q + 8 - n + i) % 8)) M (B i) ∧ rv (fun j => M 160 (195 + 65 * i + j)) (B i) := by
    refine ⟨fun i => if h : i < n then Classical.choose (f i h) else fun _ _ => 0, fun i hi => ?_⟩
    dsimp only
    rw [dif_pos hi]
    exact Classical.choose_spec (f i hi)
  exact ⟨B, ⟨a, b, c, d, fun i hi => ⟨(hB i hi).1, (hB i hi).2.1⟩⟩, b, e, fun i hi => (hB i hi).2.2⟩
theorem rH_mk {M : mt_M} {n q : Nat} {B : Nat → hs_A} (h1 : hC M n q B) (h2 : hR M n B) : rH M n q :=
  ⟨h1.1, h1.2.1, h1.2.2.1, h1.2.2.2.1, h2.2.1, fun i hi => ⟨B i, (h1.2.2.2.2 i hi).1, (h1.2.2.2.2 i hi).2, h2.2.2 i hi⟩⟩
theorem hC_eq {M M' : mt_M} {n q : Nat} {B : Nat → hs_A} (h : hC M n q B) (h43 : M' 43 = M 43) (hk : ∀ id, 45 ≤ id → id < 133 → M' id = M id) : hC M' n q B := by
  obtain ⟨a, b, c, d, f⟩ := h
  refine ⟨a, b, by rw [h43]; exact c, by rw [h43]; exact d, fun i hi => ⟨(f i hi).1, hv_frame (f i hi).2 (fun id x y => hk id (by omega) (by omega))⟩⟩
theorem hR_eq {M M' : mt_M} {n : Nat} {B : Nat → hs_A} (h : hR M n B) (h23 : M' 147 23 = M 147 23) (h160 : ∀ j, 195 ≤ j → M' 160 j = M 160 j) : hR M' n B :=
  ⟨h.1, h23.trans h.2.1, fun i hi => rv_eq (fun j _ => h160 _ (by omega)) (h.2.2 i hi)⟩
def hN (n : Nat) : Nat := if n < 8 then n + 1 else 8
def hB (A : hs_A) (B : Nat → hs_A) (n : Nat) : Nat → hs_A := fun i => if n < 8 then (if i < n then B i else A) else (if i < 7 then B (i + 1) else A)
theorem kd_r8 : ∀ q, q < 8 → (nI q + (1 : Int32)) - (nI q + (1 : Int32)) / (8 : Int32) * (8 : Int32) = nI ((q + 1) % 8) := by decide +kernel
theorem kd_r7 : ∀ q, q < 8 → ((nI q + (8 : Int32)) - (1 : Int32)) - ((nI q + (8 : Int32)) - (1 : Int32)) / (8 : Int32) * (8 : Int32) = nI ((q + 7) % 8) := by decide +kernel
theorem kd_n8 : ∀ n, n < 9 → (if (nI n + (1 : Int32)) < (8 : Int32) then nI n + (1 : Int32) else (8 : Int32)) = nI (hN n) := by decide +kernel
theorem kd_n1 : ∀ n, n < 8 → nI (n + 1) - (1 : Int32) = nI n := by decide +kernel
theorem xk_keep {M : mt_M} {A : hs_A} {n q : Nat} {B : Nat → hs_A} (hh : hv 10 M A) (hwf : hs_wf A) (h : hC M n q B) : ∃ M', f_X3_keep 10 M = some M' ∧ hv 10 M' A ∧ hC M' (hN n) ((q + 1) % 8) (hB A B n) := by
  obtain ⟨h1, h2, h3, h4, h5⟩ := h
  obtain ⟨M4, b1, b2⟩ := hc_become (h := 45 + 11 * q) hh hwf (Or.inr (by omega))
  have fr := fr_X4_become (45 + 11 * q) 10 M b1
  have e43 : M4 43 = M 43 := fr 43 (by omega)
  have e1 : M4 43 1 = nI q := by rw [e43]; exact h3
  have e2 : mt_wr M4 43 1 (nI ((q + 1) % 8)) 43 2 = nI n := by rw [mt_wr_n (by decide), e43]; exact h4
  obtain ⟨M7, e7⟩ : ∃ m, m = mt_wr (mt_wr M4 43 1 (nI ((q + 1) % 8))) 43 2 (nI (hN n)) := ⟨_, rfl⟩
  have o : ∀ id, id ≠ 43 → (id < 45 + 11 * q ∨ 45 + 11 * q + 11 ≤ id) → M7 id = M id := fun id a b => by
    rw [e7, mt_wr_ne a, mt_wr_ne a, fr id b]
  have o4 : ∀ id, id ≠ 43 → M7 id = M4 id := fun id a => by
    rw [e7, mt_wr_ne a, mt_wr_ne a]
  refine ⟨M7, ?_, ?_, by omega, ?_, ?_, by rw [e7, mt_wr_s], fun i hi => ?_⟩
  · unfold f_X3_keep
    rw [h3, mt_ci_t (vp_in_nI h1 (by decide)), mt_ltE, nI_clamp (by omega), b1, mt_b1E, mt_ltE, e1, kd_r8 q h1, mt_ltE, e2, kd_n8 n (by omega), mt_ltE, e7]
  · exact hv_frame hh (fun id a b => o id (by omega) (by omega))
  · unfold hN; split <;> omega
  · rw [e7, mt_wr_n (by decide), mt_wr_s]
  · unfold hN at hi ⊢
    unfold hB
    by_cases q8 : n < 8
    · rw [if_pos q8] at hi ⊢
      rw [if_pos q8]
      by_cases z : i < n
      · rw [if_pos z]
        refine ⟨(h5 i z).1, ?_⟩
        rw [show ((q + 1) % 8 + 8 - (n + 1) + i) % 8 = (q + 8 - n + i) % 8 by omega]
        exact hv_frame (h5 i z).2 (fun id a b => o id (by omega) (by omega))
      · rw [if_neg z]
        refine ⟨hwf, ?_⟩
        rw [show ((q + 1) % 8 + 8 - (n + 1) + i) % 8 = q by omega]
        exact hv_frame b2 (fun id a b => o4 id (by omega))
    · rw [if_neg q8] at hi ⊢
      rw [if_neg q8]
      by_cases z : i < 7
      · rw [if_pos z]
        refine ⟨(h5 (i + 1) (by omega)).1, ?_⟩
        have h6 := (h5 (i + 1) (by omega)).2
        rw [show (q + 8 - n + (i + 1)) % 8 = ((q + 1) % 8 + 8 - 8 + i) % 8 by omega] at h6
        exact hv_frame h6 (fun id a b => o id (by omega) (by omega))
      · rw [if_neg z]
        refine ⟨hwf, ?_⟩
        rw [show ((q + 1) % 8 + 8 - 8 + i) % 8 = q by omega]
        exact hv_frame b2 (fun id a b => o4 id (by omega))
theorem xk_back {M : mt_M} {n q : Nat} {B : Nat → hs_A} (h : hC M (n + 1) q B) : ∃ M', f_X3_takeBack 10 M = some (nI n, M') ∧ hv 10 M' (B n) ∧ hC M' n ((q + 7) % 8) B := by
  obtain ⟨h1, h2, h3, h4, h5⟩ := h
  obtain ⟨g1, g2⟩ := h5 n (by omega)
  rw [show (q + 8 - (n + 1) + n) % 8 = (q + 7) % 8 by omega] at g2
  obtain ⟨M3, e3⟩ : ∃ m, m = mt_wr (mt_wr M 43 1 (nI ((q + 7) % 8))) 43 2 (nI n) := ⟨_, rfl⟩
  have o3 : ∀ id, id ≠ 43 → M3 id = M id := fun id a => by rw [e3, mt_wr_ne a, mt_wr_ne a]
  have g3 : hv (45 + 11 * ((q + 7) % 8)) M3 (B n) := hv_frame g2 (fun id a b => o3 id (by omega))
  obtain ⟨M4, b1, b2⟩ := hc_become (h := 10) g3 g1 (by omega)
  have fr := fr_X4_become 10 (45 + 11 * ((q + 7) % 8)) M3 b1
  have e2 : mt_wr M 43 1 (nI ((q + 7) % 8)) 43 2 = nI (n + 1) := by rw [mt_wr_n (by decide)]; exact h4
  have e31 : M3 43 1 = nI ((q + 7) % 8) := by rw [e3, mt_wr_n (by decide), mt_wr_s]
  have e42 : M4 43 2 = nI n := by rw [fr 43 (by omega), e3, mt_wr_s]
  have hb : (q + 7) % 8 < 8 := by omega
  refine ⟨M4, ?_, b2, hb, by omega, ?_, e42, fun i hi => ⟨(h5 i (by omega)).1, ?_⟩⟩
  · unfold f_X3_takeBack
    rw [h4, if_neg (show ¬ nI (n + 1) ≤ (0 : Int32) from nI_ge (show 0 < n + 1 by omega) (by omega)), h3, kd_r7 q h1, mt_ltE, e2, kd_n1 n (by omega), mt_ltE, ← e3, e31, mt_ci_t (vp_in_nI hb (by decide)), mt_ltE, nI_clamp (by omega), b1, mt_b1E, e42]
  · rw [fr 43 (by omega)]; exact e31
  · have h6 := (h5 i (by omega)).2
    rw [show (q + 8 - (n + 1) + i) % 8 = ((q + 7) % 8 + 8 - n + i) % 8 by omega] at h6
    exact hv_frame h6 (fun id a b => by rw [fr id (by omega), o3 id (by omega)])
theorem xk_forget {M : mt_M} {n q : Nat} {B : Nat → hs_A} (h : hC M n q B) : f_X3_forget M = some (mt_wr M 43 2 0) ∧ hC (mt_wr M 43 2 0) 0 q B :=
  ⟨rfl, h.1, by omega, by rw [mt_wr_n (by decide)]; exact h.2.2.1, mt_wr_s _ _ _ _, fun i hi => by omega⟩
theorem xk_forgetR {M : mt_M} {n : Nat} {B : Nat → hs_A} (h : hR M n B) : hR (mt_wr M 147 23 0) 0 B :=
  ⟨by omega, mt_wr_s _ _ _ _, fun i hi => by omega⟩
theorem xm_kb1 {M : mt_M} {A : hs_A} {n : Nat} {B : Nat → hs_A} (hr : rm M A) (h : hR M n B) (hn : n < 8) : ∃ M', (mt_b1 (f_X12_passesAll ((3 : Int32) + (M 147 23)) (1 : Int32) M) (fun (M5 : mt_M) => mt_lt (mt_wr M5 147 23 ((M5 147 23) + (1 : Int32))) (fun (M6 : mt_M) => some (M6)))) = some M' ∧ rm M' A ∧ hR M' (n + 1) (fun i => if i < n then B i else A) ∧ (∀ j, j < 195 → M' 160 j = M 160 j) ∧ ∀ id k, id ≠ 160 → (id ≠ 147 ∨ (k ≠ 21 ∧ k ≠ 22 ∧ k ≠ 23)) → M' id k = M id k := by
  obtain ⟨h1, h2, h3⟩ := h
  obtain ⟨M', p1, p2, p3⟩ := xm_allK (M := M) (w := 3 + n) (by omega)
  have e0 : (3 : Int32) + nI n = nI (3 + n) := by rw [show (3 : Int32) = nI 3 from rfl, nI_add]
  have e23 : M' 147 23 = nI n := by rw [p3 147 23 (by decide) (Or.inr (by decide))]; exact h2
  have o : ∀ id k, id ≠ 160 → (id ≠ 147 ∨ (k ≠ 21 ∧ k ≠ 22 ∧ k ≠ 23)) → mt_wr M' 147 23 (nI (n + 1)) id k = M id k := fun id k a b => by
    rw [mt_wr_ne2 (by omega), p3 id k a (by omega)]
  have o160 : ∀ j, mt_wr M' 147 23 (nI (n + 1)) 160 j = if 65 * (3 + n) ≤ j ∧ j < 65 * (3 + n) + 63 then rf M (j - 65 * (3 + n)) else M 160 j := fun j => by
    rw [mt_wr_ne (by decide)]; exact p2 j
  refine ⟨mt_wr M' 147 23 (nI (n + 1)), ?_, ?_, ⟨by omega, mt_wr_s _ _ _ _, fun i hi => ?_⟩, fun j hj => by rw [o160, if_neg (by omega)], o⟩
  · rw [h2, e0, p1, mt_b1E, e23, nI_1, mt_ltE]
  · exact rm_eq (rf_fr (fun id a b => funext fun k => o id k (by omega) (by omega)) (fun k a => o 147 k (by decide) (by omega))) hr
  · dsimp only
    by_cases z : i < n
    · rw [if_pos z]
      refine rv_eq (fun j hj => ?_) (h3 i z)
      rw [o160, if_neg (by omega)]
    · rw [if_neg z]
      refine rv_eq (fun j hj => ?_) (rm_rv.mp hr)
      rw [o160, if_pos (by omega)]
      exact congrArg (rf M) (by omega)
theorem xm_keeps {M : mt_M} {A : hs_A} {n : Nat} {B : Nat → hs_A} (hr : rm M A) (h : hR M n B) : ∃ M', f_X12_keepsBack M = some M' ∧ rm M' A ∧ hR M' (hN n) (hB A B n) ∧ (∀ j, j < 195 → M' 160 j = M 160 j) ∧ ∀ id k, id ≠ 160 → (id ≠ 147 ∨ (k ≠ 21 ∧ k ≠ 22 ∧ k ≠ 23)) → M' id k = M id k := by
  unfold f_X12_keepsBack
  rw [mt_ltE]
  by_cases q : n < 8
  · have e0 : ¬ (M 147 23 = (8 : Int32)) := by
      rw [h.2.1]; intro e
      have := (nI_eq (b := 8) (by omega) (by decide)).mp e
      omega
    rw [if_neg e0]
    obtain ⟨M', a1, a2, a3, a4, a5⟩ := xm_kb1 hr h q
    refine ⟨M', a1, a2, ?_, a4, a5⟩
    have e1 : hN n = n + 1 := if_pos q
    have e2 : hB A B n = fun i => if i < n then B i else A := by funext i; unfold hB; rw [if_pos q]
    rw [e1, e2]
    exact a3
  · have h8 : n = 8 := by have := h.1; omega
    subst h8
    rw [if_pos (show M 147 23 = (8 : Int32) from h.2.1)]
    refine mt_lz2 (P := fun (r : Option mt_M) => ∃ M' : mt_M, r = some M' ∧ rm M' A ∧ hR M' (hN 8) (hB A B 8) ∧ (∀ j, j < 195 → M' 160 j = M 160 j) ∧ ∀ id k, id ≠ 160 → (id ≠ 147 ∨ (k ≠ 21 ∧ k ≠ 22 ∧ k ≠ 23)) → M' id k = M id k) (fun i (x : Int32) (m : mt_M) => x = nI (195 + i) ∧ (∀ j, m 160 j = if 195 ≤ j ∧ j < 195 + i then M 160 (j + 65) else M 160 j) ∧ ∀ id k, id ≠ 160 → m id k = M id k) 455 (by decide) ?_ ?_ ⟨rfl, fun j => by rw [if_neg (by omega)], fun _ _ _ => rfl⟩
    · rintro i hi x m ⟨rfl, hm, hf⟩ k
      left
      have i1 : vp_in (nI (195 + i + 65)) 780 := vp_in_nI (by omega) (by omega)
      have i2 : vp_in (nI (195 + i)) 780 := vp_in_nI (by omega) (by omega)
      have c1 : (nI (195 + i + 65)).toNatClampNeg = 195 + i + 65 := nI_clamp (by omega)
      have c2 : (nI (195 + i)).toNatClampNeg = 195 + i := nI_clamp (by omega)
      have e65 : nI (195 + i) + (65 : Int32) = nI (195 + i + 65) := by rw [show (65 : Int32) = nI 65 from rfl, nI_add]
      refine ⟨nI (195 + (i + 1)), mt_wr m 160 (195 + i) (M 160 (195 + i + 65)), ⟨rfl, fun j => ?_, fun id k hid => ?_⟩, ?_⟩
      · by_cases z : j = 195 + i
        · subst z; rw [mt_wr_s, if_pos (by omega)]
        · rw [mt_wr_n z, hm]
          by_cases y : 195 ≤ j ∧ j < 195 + i
          · rw [if_pos y, if_pos (by omega)]
          · rw [if_neg y, if_neg (by omega)]
      · rw [mt_wr_ne hid]; exact hf id k hid
      · rw [if_neg (show ¬ (650 : Int32) ≤ nI (195 + i) from nI_ge (show 195 + i < 650 by omega) (by decide)), e65, mt_ci_t i1, mt_ci_t i2, mt_ltE, mt_ltE, c1, c2, nI_1, hm, if_neg (by omega)]
        rfl
    · rintro x m ⟨rfl, hm, hf⟩ k
      have e23 : m 147 23 = nI (7 + 1) := by rw [hf 147 23 (by decide)]; exact h.2.1
      have hr2 : rm (mt_wr m 147 23 (nI 7)) A := rm_eq (rf_fr (fun id a b => by rw [mt_wr_ne (by omega)]; exact funext fun k => hf id k (by omega)) (fun k a => by rw [mt_wr_n (by omega)]; exact hf 147 k (by decide))) hr
      have hR2 : hR (mt_wr m 147 23 (nI 7)) 7 (fun i => B (i + 1)) := by
        refine ⟨by decide, mt_wr_s _ _ _ _, fun i hi => ?_⟩
        refine rv_eq (fun j hj => ?_) (h.2.2 (i + 1) (by omega))
        rw [mt_wr_ne (by decide), hm, if_pos (by omega)]
        exact congrArg (M 160) (by omega)
      rw [if_pos (show (650 : Int32) ≤ nI (195 + 455) from nI_le (by decide) (by decide)), e23, kd_n1 7 (by decide), mt_ltE]
      obtain ⟨M', a1, a2, a3, a4, a5⟩ := xm_kb1 hr2 hR2 (by decide)
      refine ⟨M', a1, a2, ⟨by decide, a3.2.1, fun i hi => ?_⟩, fun j hj => ?_, fun id k a b => ?_⟩
      · have a6 := a3.2.2 i hi
        unfold hB
        dsimp only at a6 ⊢
        rw [if_neg (by decide)]
        exact a6
      · rw [a4 j hj, mt_wr_ne (by decide), hm, if_neg (by omega)]
      · rw [a5 id k a b, mt_wr_ne2 (by omega), hf id k a]
theorem xm_backs {M : mt_M} {n : Nat} {B : Nat → hs_A} (h : hR M (n + 1) B) : ∃ M', f_X12_back M = some (nI n, M') ∧ rm M' (B n) ∧ hR M' n B ∧ (∀ k, M' 160 k = M 160 k) ∧ ∀ id k, (id < 149 ∨ 155 < id) → (id ≠ 147 ∨ (k ≠ 8 ∧ k ≠ 9 ∧ k ≠ 10 ∧ k ≠ 11 ∧ k ≠ 21 ∧ k ≠ 22 ∧ k ≠ 23)) → M' id k = M id k := by
  obtain ⟨h1, h2, h3⟩ := h
  have e0 : (3 : Int32) + nI n = nI (3 + n) := by rw [show (3 : Int32) = nI 3 from rfl, nI_add]
  obtain ⟨M', p1, p2, p3, p4⟩ := xm_allR (M := mt_wr M 147 23 (nI n)) (w := 3 + n) (by omega)
  have e23 : M' 147 23 = nI n := by rw [p4 147 23 (by decide) (Or.inr (by decide)), mt_wr_s]
  have e160 : ∀ k, M' 160 k = M 160 k := fun k => by rw [p3 k, mt_wr_ne (by decide)]
  refine ⟨M', ?_, ?_, ⟨by omega, e23, fun i hi => rv_eq (fun j _ => e160 _) (h3 i (by omega))⟩, e160, fun id k a b => by rw [p4 id k a (by omega), mt_wr_ne2 (by omega)]⟩
  · unfold f_X12_back
    rw [h2, if_neg (show ¬ (nI (n + 1) = 0) from fun e => by have := (nI_eq (b := 0) (by omega) (by decide)).mp e; omega), kd_n1 n (by omega), mt_ltE, mt_wr_s, e0, p1, mt_b1E, e23]
  · refine rm_rv.mpr (rv_eq (fun j hj => ?_) (h3 n (by omega)))
    rw [p2 j hj, mt_wr_ne (by decide)]
    exact congrArg (M 160) (by omega)
/-- all but the house, what is kept and the sixty-three places stay -/
theorem rl_ch {M M' : mt_M} (h : rl M) {A : hs_A} {n q : Nat} (hwf : hs_wf A) (hh : hv 10 M' A) (hr : rm M' A) (hH : rH M' n q) (hc : ∀ id, (id < 10 ∨ (32 ≤ id ∧ id < 43) ∨ id = 145 ∨ id = 146) → M' id = M id) (h160 : ∀ j, j < 63 → M' 160 j = M 160 j) (hi : ∀ id k, id = 148 ∨ id = 156 ∨ id = 162 → M' id k = M id k) (hf : ∀ k, k = 16 ∨ k = 20 ∨ k = 27 → M' 147 k = M 147 k) : rl M' := by
  obtain ⟨-, -, -, L, T, w, rr, -, -, -, hI, -, hL, hW, hF⟩ := h
  refine ⟨A, n, q, L, T, w, rr, hwf, hh, hr, ?_, hH, ?_, ?_, fun k hk => ?_⟩
  · exact rI_eq hI (by rw [hc 0 (by decide)]) (hf 20 (by decide)) (fun id a b => hc id (by omega)) h160
  · exact rL_eq hL (hc 145 (by decide)) (hc 146 (by decide)) (hf 16 (by decide)) (fun k => hi 156 k (by decide))
  · exact rW_eq hW (by rw [hc 0 (by decide)]) (hf 27 (by decide)) (hc 1 (by decide)) (fun k => hi 162 k (by decide))
  · rw [hc 2 (by decide), hi 148 k (by decide)]; exact hF k hk

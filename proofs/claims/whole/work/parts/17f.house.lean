/-! HOUSES TOLD IN LETTERS: all of it, class and reference -/
def aq (L : Nat) (T : Nat → Nat) (A : hs_A) : Nat → hs_A × Option Nat
  | 0 => (A, none)
  | k + 1 => match (aq L T A k).2 with
    | some _ => aq L T A k
    | none => match ap (aq L T A k).1 (T (pl L T k)) (dv L T (pl L T k + 1)) (dv L T (pl L T k + 2)) (dv L T (pl L T k + 3)) with
      | some B => (B, none)
      | none => ((aq L T A k).1, some (pl L T k))
theorem aq_s {L : Nat} {T : Nat → Nat} {A B : hs_A} {k : Nat} (h : (aq L T A k).2 = none) (e : ap (aq L T A k).1 (T (pl L T k)) (dv L T (pl L T k + 1)) (dv L T (pl L T k + 2)) (dv L T (pl L T k + 3)) = some B) : aq L T A (k + 1) = (B, none) := by
  simp only [aq]
  rw [h]
  simp only
  rw [e]
theorem aq_n {L : Nat} {T : Nat → Nat} {A : hs_A} {k : Nat} (h : (aq L T A k).2 = none) (e : ap (aq L T A k).1 (T (pl L T k)) (dv L T (pl L T k + 1)) (dv L T (pl L T k + 2)) (dv L T (pl L T k + 3)) = none) : aq L T A (k + 1) = ((aq L T A k).1, some (pl L T k)) := by
  simp only [aq]
  rw [h]
  simp only
  rw [e]
theorem aq_stay {L : Nat} {T : Nat → Nat} {A : hs_A} {k f : Nat} (h : (aq L T A k).2 = some f) : ∀ d, aq L T A (k + d) = aq L T A k
  | 0 => rfl
  | d + 1 => by
    show aq L T A (k + d + 1) = _
    have ih := aq_stay h d
    simp only [aq]
    rw [ih, h]
theorem aq_fail {L : Nat} {T : Nat → Nat} {A : hs_A} {k K : Nat} (hk : k < K) (h : (aq L T A k).2 = none) (e : ap (aq L T A k).1 (T (pl L T k)) (dv L T (pl L T k + 1)) (dv L T (pl L T k + 2)) (dv L T (pl L T k + 3)) = none) : (aq L T A K).2 = some (pl L T k) := by
  have h1 := aq_n h e
  have h2 : (aq L T A (k + 1)).2 = some (pl L T k) := by rw [h1]
  have h3 := aq_stay h2 (K - (k + 1))
  rw [show k + 1 + (K - (k + 1)) = K by omega] at h3
  rw [h3, h2]
theorem aq_wf {L : Nat} {T : Nat → Nat} {A : hs_A} (h : hs_wf A) (k : Nat) : hs_wf (aq L T A k).1 := by
  induction k with
  | zero => exact h
  | succ k ih =>
    cases q : (aq L T A k).2 with
    | some f =>
      have := aq_stay q 1
      rw [this]
      exact ih
    | none =>
      cases e : ap (aq L T A k).1 (T (pl L T k)) (dv L T (pl L T k + 1)) (dv L T (pl L T k + 2)) (dv L T (pl L T k + 3)) with
      | some B => rw [aq_s q e]; exact ap_wf ih (dv_le _ _ _) (dv_le _ _ _) (dv_le _ _ _) e
      | none => rw [aq_n q e]; exact ih
theorem kd_m1 : ∀ q, q < 256 → (-1000 : Int32) - nI q < 0 ∧ (-2000 : Int32) - nI q < 0 := by decide +kernel
section XZ
variable {M : mt_M} {A : hs_A} {L : Nat} {T : Nat → Nat}
theorem xt_tell (h : M 145 1 = nI L) (hL : L ≤ 96) (hT : tm M 146 L T) (hb : ∀ k, k < L → T k ≤ 255) (hh : hv 10 M A) (hwf : hs_wf A) {K : Nat} (hK : eK L T K) (hf : fn L T K) :
    ((aq L T A K).2 = none → ∃ M', f_X7_tell 10 21 M = some (nI K, M') ∧ hv 21 M' (aq L T A K).1) ∧ (∀ f, (aq L T A K).2 = some f → ∃ M', f_X7_tell 10 21 M = some (-2000 - nI f, M')) := by
  obtain ⟨k1, k2, k3⟩ := eK_le hK hL
  have key : ∀ P : Option (Int32 × mt_M) → Prop, (∀ M', (aq L T A K).2 = none → hv 21 M' (aq L T A K).1 → P (some (nI K, M'))) → (∀ f M', (aq L T A K).2 = some f → P (some (-2000 - nI f, M'))) → P (f_X7_tell 10 21 M) := by
    intro P p1 p2
    obtain ⟨M5, j1, j2⟩ := hc_become (h := 21) hh hwf (Or.inr (by decide))
    have fr5 := fr_X4_become _ _ _ j1
    unfold f_X7_tell
    rw [(xt_first h hL hT hb hK).1 hf, mt_b1E, if_pos (by decide), j1, mt_b1E]
    refine mt_lz3 (P := P) (fun k (x : Int32) (y : Int32) (m : mt_M) => x = nI k ∧ y = nI (pl L T k) ∧ (aq L T A k).2 = none ∧ hv 21 m (aq L T A k).1 ∧ ∀ id, (id < 21 ∨ 32 ≤ id) → m id = M id) K (by omega) ?_ ?_ ⟨rfl, rfl, rfl, j2, fun id hid => fr5 id (by omega)⟩
    · rintro k hk x y m ⟨rfl, rfl, hq, hm, hfr⟩ c
      have hpl := eK_pl hK hL hk
      obtain ⟨g1, g2, g3⟩ := eK_step hK hk
      have h' : m 145 1 = nI L := by rw [hfr 145 (by decide)]; exact h
      have hT' : tm m 146 L T := fun i hi => by rw [hfr 146 (by decide)]; exact hT i hi
      obtain ⟨m', c1, c2⟩ := xt_comes h' hL hT' hb hm (aq_wf hwf k) (p := pl L T k) (by omega) g1
      have frc := fr_X7_comesTrue _ _ _ c1
      rw [h', if_neg (nI_ge hpl (by omega)), c1, mt_b2E]
      cases e : ap (aq L T A k).1 (T (pl L T k)) (dv L T (pl L T k + 1)) (dv L T (pl L T k + 2)) (dv L T (pl L T k + 3)) with
      | none =>
        right
        rw [if_pos (show sp_is none = 0 from rfl)]
        exact p2 _ _ (aq_fail hk hq e)
      | some B =>
        left
        have es := aq_s hq e
        have h'' : m' 145 1 = nI L := by rw [frc 145 (by decide)]; exact h'
        have hT'' : tm m' 146 L T := fun i hi => by rw [frc 146 (by decide)]; exact hT' i hi
        rw [if_neg (show ¬ sp_is (some B) = 0 from (by decide : ¬ (1 : Int32) = 0)), mt_ltE, nI_1]
        refine ⟨nI (k + 1), nI (pl L T (k + 1)), m', ⟨rfl, rfl, by rw [es], by rw [es]; exact c2 B e, fun id hid => (frc id (by omega)).trans (hfr id hid)⟩, ?_⟩
        exact xt_next hb h'' hL hT'' (j := k) (by omega) g1 (fun x => c (nI (k + 1)) x m')
    · rintro x y m ⟨rfl, rfl, hq, hm, hfr⟩ c
      have h' : m 145 1 = nI L := by rw [hfr 145 (by decide)]; exact h
      rw [h', if_pos (nI_le hf.2 (by omega))]
      exact p1 m hq hm
  constructor
  · intro hq
    refine key (fun r => ∃ M', r = some (nI K, M') ∧ hv 21 M' (aq L T A K).1) (fun M' _ h2 => ⟨M', rfl, h2⟩) (fun f M' h2 => ?_)
    rw [hq] at h2
    cases h2
  · intro f hq
    refine key (fun r => ∃ M', r = some (-2000 - nI f, M')) (fun M' h2 _ => ?_) (fun f' M' h2 => ?_)
    · rw [hq] at h2
      cases h2
    · rw [hq] at h2
      have := Option.some.inj h2
      subst this
      exact ⟨M', rfl⟩
/-- the class -/
theorem xt_house1 (h : M 145 1 = nI L) (hL : L ≤ 96) (hT : tm M 146 L T) (hb : ∀ k, k < L → T k ≤ 255) {K : Nat} (hK : eK L T K) (hf : ¬ fn L T K) : f_X11_house M = some (-1000 - sp_om (ts L T (pl L T K)), mt_wr M 145 1 0) := by
  obtain ⟨k1, k2, k3⟩ := eK_le hK hL
  obtain ⟨q, hq⟩ := eK_bad hK hf
  have hl := ts_lt hq
  have e1 : sp_om (some q) = nI q := rfl
  have et : f_X7_tell 10 21 M = some (-1000 - nI q, M) := by
    unfold f_X7_tell
    rw [(xt_first h hL hT hb hK).2 hf, mt_b1E, hq, e1, if_neg (nI_pos (by omega))]
  unfold f_X11_house
  rw [et, mt_b2E, hq, e1]
  unfold f_X7_wipe
  rw [mt_ltE, mt_b1E, if_pos (kd_m1 q (by omega)).1]
theorem xt_house2 (h : M 145 1 = nI L) (hL : L ≤ 96) (hT : tm M 146 L T) (hb : ∀ k, k < L → T k ≤ 255) (hh : hv 10 M A) (hwf : hs_wf A) {K f : Nat} (hK : eK L T K) (hf : fn L T K) (hq : (aq L T A K).2 = some f) (hfl : f < 256) : ∃ M', f_X11_house M = some (-2000 - nI f, M') ∧ M' 145 1 = 0 ∧ ∀ id k, (id < 21 ∨ 32 ≤ id) → (id ≠ 145 ∨ k ≠ 1) → M' id k = M id k := by
  obtain ⟨M1, r1⟩ := (xt_tell h hL hT hb hh hwf hK hf).2 f hq
  have fr := fr_X7_tell _ _ _ r1
  refine ⟨mt_wr M1 145 1 0, ?_, mt_wr_s _ _ _ _, fun id k h1 h2 => ?_⟩
  · unfold f_X11_house
    rw [r1, mt_b2E]
    unfold f_X7_wipe
    rw [mt_ltE, mt_b1E, if_pos (kd_m1 f hfl).2]
  · rw [mt_wr_ne2 h2, fr id (by omega)]
theorem xt_house3 (h : M 145 1 = nI L) (hL : L ≤ 96) (hT : tm M 146 L T) (hb : ∀ k, k < L → T k ≤ 255) (hh : hv 10 M A) (hwf : hs_wf A) {K : Nat} (hK : eK L T K) (hf : fn L T K) (hq : (aq L T A K).2 = none) : ∃ M', f_X11_house M = some (nI K, M') ∧ hv 10 M' (aq L T A K).1 ∧ M' 145 1 = 0 ∧ M' 43 2 = 0 ∧ ∀ id k, (id < 10 ∨ 32 ≤ id) → (id ≠ 145 ∨ k ≠ 1) → (id ≠ 43 ∨ k ≠ 2) → M' id k = M id k := by
  obtain ⟨k1, k2, k3⟩ := eK_le hK hL
  obtain ⟨M1, r1, r2⟩ := (xt_tell h hL hT hb hh hwf hK hf).1 hq
  have fr := fr_X7_tell _ _ _ r1
  have hv1 : hv 21 (mt_wr M1 145 1 0) (aq L T A K).1 := hv_frame r2 (fun id a b => mt_wr_ne (by omega))
  obtain ⟨M8, j1, j2⟩ := hc_become (h := 10) hv1 (aq_wf hwf K) (Or.inl (by decide))
  have fr8 := fr_X4_become _ _ _ j1
  refine ⟨mt_wr M8 43 2 0, ?_, hv_frame j2 (fun id a b => mt_wr_ne (by omega)), ?_, mt_wr_s _ _ _ _, fun id k h1 h2 h3 => ?_⟩
  · unfold f_X11_house
    rw [r1, mt_b2E]
    unfold f_X7_wipe
    rw [mt_ltE, mt_b1E, if_neg (nI_pos (by omega)), j1, mt_b1E]
    unfold f_X3_forget
    rw [mt_ltE, mt_b1E]
  · rw [mt_wr_ne (by decide), fr8 145 (by decide), mt_wr_s]
  · rw [mt_wr_ne2 h3, fr8 id (by omega), mt_wr_ne2 h2, fr id (by omega)]
/-- what the reference's reading leaves as it was -/
def xK (M M' : mt_M) : Prop := (∀ j, (j < 65 ∨ 130 ≤ j) → M' 160 j = M 160 j) ∧ (∀ id k, id = 148 ∨ id = 156 ∨ id = 162 → M' id k = M id k) ∧ (∀ k, k = 20 ∨ k = 27 → M' 147 k = M 147 k) ∧ ∀ id k, id < 147 → M' id k = M id k
theorem xK_of {r : Int32} {M' : mt_M} (hf : f_X12_house M = some (r, M')) (h160 : ∀ j, (j < 65 ∨ 130 ≤ j) → M' 160 j = M 160 j) : xK M M' := by
  have fr := fr_X12_house _ hf
  exact ⟨h160, fun id k h => fr id k (by omega), fun k h => fr 147 k (by omega), fun id k h => fr id k (by omega)⟩
theorem xm_house (hr : rm M A) (hwf : hs_wf A) (hR : xR M L T) (hL : L ≤ 96) (hb : ∀ k, k < L → T k ≤ 255) {K : Nat} (hK : eK L T K) :
    (¬ fn L T K → ∃ M', f_X12_house M = some (-1000 - sp_om (ts L T (pl L T K)), M') ∧ rm M' A ∧ M' 147 16 = 0 ∧ M' 147 23 = M 147 23 ∧ xK M M')
    ∧ (fn L T K → ∀ f, (aq L T A K).2 = some f → ∃ M', f_X12_house M = some (-2000 - nI f, M') ∧ rm M' A ∧ M' 147 16 = 0 ∧ M' 147 23 = M 147 23 ∧ xK M M')
    ∧ (fn L T K → (aq L T A K).2 = none → ∃ M', f_X12_house M = some (nI K, M') ∧ rm M' (aq L T A K).1 ∧ M' 147 16 = 0 ∧ M' 147 23 = 0 ∧ xK M M') := by
  obtain ⟨k1, k2, k3⟩ := eK_le hK hL
  obtain ⟨M2, e2⟩ : ∃ m, m = mt_wr (mt_wr M 147 17 0) 147 18 0 := ⟨_, rfl⟩
  have o2 : ∀ id k : Nat, ((id ≠ 147 ∨ k ≠ 17) ∧ (id ≠ 147 ∨ k ≠ 18)) → M2 id k = M id k := fun id k h => by rw [e2, mt_wr_ne2 h.2, mt_wr_ne2 h.1]
  have hR2 : xR M2 L T := ⟨(o2 147 16 ⟨Or.inr (by decide), Or.inr (by decide)⟩).trans hR.1, fun k hk => (o2 156 k ⟨Or.inl (by decide), Or.inl (by decide)⟩).trans (hR.2 k hk)⟩
  have h17 : M2 147 17 = 0 := by rw [e2, mt_wr_n (by decide), mt_wr_s]
  have h18 : M2 147 18 = 0 := by rw [e2, mt_wr_s]
  obtain ⟨g, m, a1, a2, a3, a4⟩ := xs_parse (fun (x3 : Int32) (M4 : mt_M) => mt_lt (mt_wr M4 147 16 (0 : Int32)) (fun (M9 : mt_M) => if x3 = 0 then some (((-1000 : Int32) - (M9 147 17)), M9) else mt_b1 (f_X12_passesAll (1 : Int32) (1 : Int32) M9) (fun (M12 : mt_M) => mt_lp2 (fun k15 (x13 : Int32) (M14 : mt_M) => if (M14 147 18) ≤ x13 then mt_lt (mt_wr M14 147 23 (0 : Int32)) (fun (M18 : mt_M) => some ((M18 147 18), M18)) else mt_b2 (f_X12_comes x13 M14) (fun (r20 : Int32) (M21 : mt_M) => if r20 = 0 then mt_b1 (f_X12_passesAll (1 : Int32) (0 : Int32) M21) (fun (M24 : mt_M) => mt_ci x13 48 (some (((-2000 : Int32) - (M24 158 x13.toNatClampNeg)), M24))) else mt_lt (x13 + (1 : Int32)) (fun (x26 : Int32) => k15 x26 M21))) mt_FU (0 : Int32) M12))) hR2 hL hb h17 h18 hK
  have e0 : f_X12_house M = mt_lt (mt_wr m 147 16 (0 : Int32)) (fun (M9 : mt_M) => if g = 0 then some (((-1000 : Int32) - (M9 147 17)), M9) else mt_b1 (f_X12_passesAll (1 : Int32) (1 : Int32) M9) (fun (M12 : mt_M) => mt_lp2 (fun k15 (x13 : Int32) (M14 : mt_M) => if (M14 147 18) ≤ x13 then mt_lt (mt_wr M14 147 23 (0 : Int32)) (fun (M18 : mt_M) => some ((M18 147 18), M18)) else mt_b2 (f_X12_comes x13 M14) (fun (r20 : Int32) (M21 : mt_M) => if r20 = 0 then mt_b1 (f_X12_passesAll (1 : Int32) (0 : Int32) M21) (fun (M24 : mt_M) => mt_ci x13 48 (some (((-2000 : Int32) - (M24 158 x13.toNatClampNeg)), M24))) else mt_lt (x13 + (1 : Int32)) (fun (x26 : Int32) => k15 x26 M21))) mt_FU (0 : Int32) M12)) := by
    unfold f_X12_house
    rw [mt_ltE, mt_ltE, ← e2]
    exact a1
  have o9 : ∀ id k : Nat, ((id ≠ 147 ∨ k ≠ 16) ∧ (id ≠ 147 ∨ k ≠ 17) ∧ (id ≠ 147 ∨ k ≠ 18) ∧ id ≠ 157 ∧ id ≠ 158 ∧ id ≠ 159) → mt_wr m 147 16 0 id k = M id k := fun id k h => by
    rw [mt_wr_ne2 h.1, a4 id k h.2, o2 id k ⟨h.2.1, h.2.2.1⟩]
  have rf9 : ∀ j, j < 63 → rf (mt_wr m 147 16 0) j = rf M j := fun j hj => by
    unfold rf
    rw [o9 149 _ (by omega), o9 150 _ (by omega), o9 151 _ (by omega), o9 152 _ (by omega), o9 153 _ (by omega), o9 154 _ (by omega), o9 155 _ (by omega), o9 147 _ (by omega)]
  have rm9 : rm (mt_wr m 147 16 0) A := rm_eq rf9 hr
  have comb : ∀ {p q r : Prop}, (p → q ∧ r) → (p → q) ∧ (p → r) := fun h => ⟨fun x => (h x).1, fun x => (h x).2⟩
  refine ⟨fun hf => ?_, comb (fun hf => ?_)⟩
  · obtain ⟨rfl, b2⟩ := a3 hf
    have e1 : f_X12_house M = some (-1000 - sp_om (ts L T (pl L T K)), mt_wr m 147 16 0) := by
      rw [e0, mt_ltE, if_pos rfl, mt_wr_n (by decide), b2]
    exact ⟨_, e1, rm9, mt_wr_s _ _ _ _, o9 147 23 (by decide), xK_of e1 (fun j _ => o9 160 j (by omega))⟩
  · obtain ⟨rfl, b2, b3⟩ := a2 hf
    obtain ⟨M12, p1, p2, p3⟩ := xm_allK (M := mt_wr m 147 16 0) (w := 1) (by decide)
    have p1 : f_X12_passesAll 1 1 (mt_wr m 147 16 0) = some M12 := p1
    have rm12 : rm M12 A := by
      refine rm_eq (fun j hj => ?_) hr
      rw [← rf9 j hj]
      unfold rf
      rw [p3 149 _ (by decide) (by omega), p3 150 _ (by decide) (by omega), p3 151 _ (by decide) (by omega), p3 152 _ (by decide) (by omega), p3 153 _ (by decide) (by omega), p3 154 _ (by decide) (by omega), p3 155 _ (by decide) (by omega), p3 147 _ (by decide) (by omega)]
    have m18 : M12 147 18 = nI K := by rw [p3 147 18 (by decide) (by omega), mt_wr_n (by decide)]; exact b2
    have w12 : xW M12 L T K := fun i hi => by
      obtain ⟨w1, w2, w3⟩ := b3 i hi
      refine ⟨?_, ?_, tl_eq w3 (fun k _ => ?_)⟩
      · rw [p3 157 _ (by decide) (by omega), mt_wr_ne (by decide)]; exact w1
      · rw [p3 158 _ (by decide) (by omega), mt_wr_ne (by decide)]; exact w2
      · rw [p3 159 _ (by decide) (by omega), mt_wr_ne (by decide)]
    have key : ∀ P : Option (Int32 × mt_M) → Prop,
        (∀ m1 : mt_M, (aq L T A K).2 = none → rm m1 (aq L T A K).1 → (∀ id k, ((id ≠ 147 ∨ k ≠ 10) ∧ (id ≠ 147 ∨ k ≠ 11) ∧ (id ≠ 147 ∨ k ≠ 8) ∧ (id ≠ 147 ∨ k ≠ 9) ∧ id ≠ 149 ∧ id ≠ 150 ∧ id ≠ 151 ∧ id ≠ 152 ∧ id ≠ 153 ∧ id ≠ 154 ∧ id ≠ 155) → m1 id k = M12 id k) → P (some (nI K, mt_wr m1 147 23 0))) →
        (∀ (f : Nat) (m1 : mt_M), (aq L T A K).2 = some f → rm m1 A → m1 147 16 = 0 → m1 147 23 = M 147 23 → (∀ j, (j < 65 ∨ 130 ≤ j) → m1 160 j = M 160 j) → P (some (-2000 - nI f, m1))) →
        P (f_X12_house M) := by
      intro P q1 q2
      rw [e0, mt_ltE, if_neg (by decide), p1, mt_b1E]
      refine mt_lz2 (P := P) (fun k (x : Int32) (mm : mt_M) => x = nI k ∧ (aq L T A k).2 = none ∧ rm mm (aq L T A k).1 ∧ ∀ id k, ((id ≠ 147 ∨ k ≠ 10) ∧ (id ≠ 147 ∨ k ≠ 11) ∧ (id ≠ 147 ∨ k ≠ 8) ∧ (id ≠ 147 ∨ k ≠ 9) ∧ id ≠ 149 ∧ id ≠ 150 ∧ id ≠ 151 ∧ id ≠ 152 ∧ id ≠ 153 ∧ id ≠ 154 ∧ id ≠ 155) → mm id k = M12 id k) K (by omega) ?_ ?_ ⟨rfl, rfl, rm12, fun _ _ _ => rfl⟩
      · rintro k hk x mm ⟨rfl, hq, hm, hfr⟩ c
        obtain ⟨w1, w2, w3⟩ := w12 k hk
        have s1 : mm 157 k = nI (T (pl L T k)) := by rw [hfr 157 k (by omega)]; exact w1
        have s2 : mm 158 k = nI (pl L T k) := by rw [hfr 158 k (by omega)]; exact w2
        have s3 : tl L T (pl L T k) k mm := tl_eq w3 (fun i _ => hfr 159 i (by omega))
        have s18 : mm 147 18 = nI K := by rw [hfr 147 18 (by omega)]; exact m18
        obtain ⟨g1, g2, g3⟩ := eK_step hK hk
        obtain ⟨d, d1, d2, d3, d4⟩ := ts_none g1
        obtain ⟨m', c1, c2⟩ := xm_comes hm (aq_wf hwf k) (show k ≤ 47 by omega) s1 s3 (tp_le d1).2.2
        have frc := fr_X12_comes _ _ c1
        rw [s18, if_neg (nI_ge hk (by omega)), c1, mt_b2E]
        cases e : ap (aq L T A k).1 (T (pl L T k)) (dv L T (pl L T k + 1)) (dv L T (pl L T k + 2)) (dv L T (pl L T k + 3)) with
        | none =>
          right
          obtain ⟨M24, u1, u2, u3, u4⟩ := xm_allR (M := m') (w := 1) (by decide)
          have u1 : f_X12_passesAll 1 0 m' = some M24 := u1
          have t158 : M24 158 k = nI (pl L T k) := by rw [u4 158 k (by omega) (Or.inl (by decide)), frc 158 k (by omega)]; exact s2
          have t160 : ∀ j, M24 160 j = M12 160 j := fun j => by rw [u3, frc 160 j (by omega), hfr 160 j (by omega)]
          rw [if_pos (show sp_is none = 0 from rfl), u1, mt_b1E, mt_ci_t (vp_in_nI (show k < 48 by omega) (by decide)), nI_clamp (by omega), t158]
          refine q2 _ _ (aq_fail hk hq e) (rm_eq (fun j hj => ?_) hr) ?_ ?_ (fun j hj => ?_)
          · rw [u2 j hj, frc 160 _ (by omega), hfr 160 _ (by omega), p2, if_pos (by omega), show 65 * 1 + j - 65 * 1 = j by omega, rf9 j hj]
          · rw [u4 147 16 (by omega) (Or.inr (by decide)), frc 147 16 (by omega), hfr 147 16 (by omega), p3 147 16 (by decide) (by omega), mt_wr_s]
          · rw [u4 147 23 (by omega) (Or.inr (by decide)), frc 147 23 (by omega), hfr 147 23 (by omega), p3 147 23 (by decide) (by omega), o9 147 23 (by omega)]
          · rw [t160, p2, if_neg (by omega), o9 160 j (by omega)]
        | some B =>
          left
          have es := aq_s hq e
          rw [if_neg (show ¬ sp_is (some B) = 0 from (by decide : ¬ (1 : Int32) = 0)), mt_ltE, nI_1]
          exact ⟨nI (k + 1), m', ⟨rfl, by rw [es], by rw [es]; exact c2 B e, fun id i hid => (frc id i hid).trans (hfr id i hid)⟩, rfl⟩
      · rintro x mm ⟨rfl, hq, hm, hfr⟩ c
        have s18 : mm 147 18 = nI K := by rw [hfr 147 18 (by omega)]; exact m18
        rw [s18, if_pos (nI_le (Nat.le_refl _) (by omega)), mt_ltE, mt_wr_n (by decide), s18]
        exact q1 mm hq hm hfr
    constructor
    · intro f hq
      have h3 : ∃ M', f_X12_house M = some (-2000 - nI f, M') ∧ rm M' A ∧ M' 147 16 = 0 ∧ M' 147 23 = M 147 23 ∧ ∀ j, (j < 65 ∨ 130 ≤ j) → M' 160 j = M 160 j := by
        refine key (fun r => ∃ M', r = some (-2000 - nI f, M') ∧ rm M' A ∧ M' 147 16 = 0 ∧ M' 147 23 = M 147 23 ∧ ∀ j, (j < 65 ∨ 130 ≤ j) → M' 160 j = M 160 j) (fun m1 h1 _ _ => ?_) (fun f' m1 h1 h2 h3 h4 h5 => ?_)
        · rw [hq] at h1
          cases h1
        · rw [hq] at h1
          have := Option.some.inj h1
          subst this
          exact ⟨m1, rfl, h2, h3, h4, h5⟩
      obtain ⟨M', y1, y2, y3, y4, y5⟩ := h3
      exact ⟨M', y1, y2, y3, y4, xK_of y1 y5⟩
    · intro hq
      have h3 : ∃ M', f_X12_house M = some (nI K, M') ∧ rm M' (aq L T A K).1 ∧ M' 147 16 = 0 ∧ M' 147 23 = 0 ∧ ∀ j, (j < 65 ∨ 130 ≤ j) → M' 160 j = M 160 j := by
        refine key (fun r => ∃ M', r = some (nI K, M') ∧ rm M' (aq L T A K).1 ∧ M' 147 16 = 0 ∧ M' 147 23 = 0 ∧ ∀ j, (j < 65 ∨ 130 ≤ j) → M' 160 j = M 160 j) (fun m1 _ h2 h3 => ⟨_, rfl, ?_, ?_, mt_wr_s _ _ _ _, fun j hj => ?_⟩) (fun f' m1 h1 _ _ _ _ => ?_)
        · refine rm_eq (fun j hj => ?_) h2
          unfold rf
          rw [mt_wr_ne (show (149 : Nat) ≠ 147 by decide), mt_wr_ne (show (150 : Nat) ≠ 147 by decide), mt_wr_ne (show (151 : Nat) ≠ 147 by decide), mt_wr_ne (show (152 : Nat) ≠ 147 by decide), mt_wr_ne (show (153 : Nat) ≠ 147 by decide), mt_wr_ne (show (154 : Nat) ≠ 147 by decide), mt_wr_ne (show (155 : Nat) ≠ 147 by decide), mt_wr_n (show j - 51 ≠ 23 by omega)]
        · rw [mt_wr_n (by decide), h3 147 16 (by omega), p3 147 16 (by decide) (by omega), mt_wr_s]
        · rw [mt_wr_ne (by decide), h3 160 j (by omega), p2, if_neg (by omega), o9 160 j (by omega)]
        · rw [hq] at h1
          cases h1
      obtain ⟨M', y1, y2, y3, y4, y5⟩ := h3
      exact ⟨M', y1, y2, y3, y4, xK_of y1 y5⟩
end XZ

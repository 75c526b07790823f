/-! HOUSES TOLD IN LETTERS: the reference's statements, one by one -/
section XQ
variable {M : mt_M} {A : hs_A} {L : Nat} {T : Nat → Nat}
theorem xs_stmt (hR : xR M L T) (hL : L ≤ 96) (hb : ∀ k, k < L → T k ≤ 255) {p j : Nat} (h17 : M 147 17 = nI p) (h18 : M 147 18 = nI j) (hj : j ≤ 47) (hp : p ≤ 200) :
    (ts L T p = none → ∃ m', f_X12_statement M = some (1, m') ∧ m' 147 17 = nI (p + (tp L T p).getD 0 + 2) ∧ m' 157 j = nI (T p) ∧ m' 158 j = nI p ∧ tl L T p j m' ∧ (∀ i, i < j → m' 157 i = M 157 i ∧ m' 158 i = M 158 i) ∧ (∀ k, k < 3 * j → m' 159 k = M 159 k) ∧ ∀ id k : Nat, ((id ≠ 147 ∨ k ≠ 17) ∧ id ≠ 157 ∧ id ≠ 158 ∧ id ≠ 159) → m' id k = M id k)
    ∧ (∀ q, ts L T p = some q → ∃ m', f_X12_statement M = some (0, m') ∧ m' 147 17 = nI q ∧ ∀ id k : Nat, ((id ≠ 147 ∨ k ≠ 17) ∧ id ≠ 157 ∧ id ≠ 158 ∧ id ≠ 159) → m' id k = M id k) := by
  have hin : vp_in (nI j) 48 := vp_in_nI (by omega) (by omega)
  have hcl : (nI j).toNatClampNeg = j := nI_clamp (by omega)
  obtain ⟨N, eN⟩ : ∃ m, m = mt_wr (mt_wr (mt_wr M 157 j (nI (T p))) 158 j (nI p)) 147 17 (nI (p + 1)) := ⟨_, rfl⟩
  have N17 : N 147 17 = nI (p + 1) := by rw [eN, mt_wr_s]
  have No : ∀ id k : Nat, ((id ≠ 147 ∨ k ≠ 17) ∧ id ≠ 157 ∧ id ≠ 158) → N id k = M id k := fun id k h => by rw [eN, mt_wr_ne2 h.1, mt_wr_ne h.2.2, mt_wr_ne h.2.1]
  have N57 : ∀ k, N 157 k = if k = j then nI (T p) else M 157 k := fun k => by
    rw [eN, mt_wr_ne (by decide), mt_wr_ne (by decide)]
    by_cases q : k = j
    · subst q; rw [mt_wr_s, if_pos rfl]
    · rw [mt_wr_n q, if_neg q]
  have N58 : ∀ k, N 158 k = if k = j then nI p else M 158 k := fun k => by
    rw [eN, mt_wr_ne (by decide)]
    by_cases q : k = j
    · subst q; rw [mt_wr_s, if_pos rfl]
    · rw [mt_wr_n q, if_neg q, mt_wr_ne (by decide)]
  have hRN : xR N L T := ⟨(No 147 16 ⟨Or.inr (by decide), by decide, by decide⟩).trans hR.1, fun k hk => (No 156 k ⟨Or.inl (by decide), by decide, by decide⟩).trans (hR.2 k hk)⟩
  have go : ∀ d, tp L T p = some d → f_X12_statement M = mt_b2 (f_X12_readsAll (nI (T p)) (nI (3 * j)) N) (fun r12 M13 => if r12 = 0 then some (0, M13) else mt_b1 (f_X12_next M13) (fun r16 => if r16 = 59 then some (1, mt_wr M13 147 17 ((M13 147 17) + 1)) else some (0, M13))) := by
    intro d hd
    obtain ⟨d1, d2, d3⟩ := tp_le hd
    have et : tx L T p = nI (T p) := by unfold tx; rw [if_pos d2]
    have e18 : ∀ x, mt_wr M 157 j x 147 18 = nI j := fun x => by rw [mt_wr_ne (by decide)]; exact h18
    have e17 : ∀ x, mt_wr M 157 j x 147 17 = nI p := fun x => by rw [mt_wr_ne (by decide)]; exact h17
    have e17b : ∀ x y, mt_wr (mt_wr M 157 j x) 158 j y 147 17 = nI p := fun x y => by rw [mt_wr_ne (by decide), mt_wr_ne (by decide)]; exact h17
    have e18b : N 147 18 = nI j := (No 147 18 ⟨Or.inr (by decide), by decide, by decide⟩).trans h18
    unfold f_X12_statement
    rw [xn_next hR hL h17 (by omega), mt_b1E, et, kd_il _ (by have := hb p d2; omega), mt_b1E, d3, if_neg (show ¬ (if (some d : Option Nat).isSome = true then (1 : Int32) else 0) = 0 from (by decide : ¬ (if true = true then (1 : Int32) else 0) = 0)), h18, mt_ci_t hin, hcl, mt_ltE, e18, mt_ci_t hin, hcl, mt_ltE, e17, e17b, nI_1, mt_ltE, ← eN, e18b, mi_3, pk_mul]
    simp only [mt_ltE]
  constructor
  · intro hs
    obtain ⟨d, d1, d2, d3, d4⟩ := ts_none hs
    obtain ⟨t1, t2, t3⟩ := tp_le d1
    obtain ⟨m1, r1, a1, b1, f1⟩ := xr_all hRN hL hb N17 hp hj t3 d2
    have hR1 : xR m1 L T := xR_fr hRN (fun id k h => f1 id k h.1 (Or.inl h.2))
    have e59 : tx L T (p + 1 + d) = 59 := (tx_59 hb).mpr ⟨d3, d4⟩
    refine ⟨mt_wr m1 147 17 (nI (p + 1 + d + 1)), ?_, ?_, ?_, ?_, ?_, fun i hi => ⟨?_, ?_⟩, fun k hk => ?_, fun id k h => ?_⟩
    · rw [go d d1, r1, mt_b2E, if_neg (by decide), xn_next hR1 hL a1 (by omega), mt_b1E, e59, if_pos rfl, a1, nI_1]
    · rw [mt_wr_s, d1]; congr 1; show p + 1 + d + 1 = p + d + 2; omega
    · rw [mt_wr_ne (by decide), f1 157 j (Or.inl (by decide)) (Or.inl (by decide)), N57, if_pos rfl]
    · rw [mt_wr_ne (by decide), f1 158 j (Or.inl (by decide)) (Or.inl (by decide)), N58, if_pos rfl]
    · exact tl_eq b1 (fun k _ => by rw [mt_wr_ne (by decide)])
    · rw [mt_wr_ne (by decide), f1 157 i (Or.inl (by decide)) (Or.inl (by decide)), N57, if_neg (by omega)]
    · rw [mt_wr_ne (by decide), f1 158 i (Or.inl (by decide)) (Or.inl (by decide)), N58, if_neg (by omega)]
    · rw [mt_wr_ne (by decide), f1 159 k (Or.inl (by decide)) (Or.inr hk), No 159 k ⟨Or.inl (by decide), by decide, by decide⟩]
    · rw [mt_wr_ne2 h.1, f1 id k h.1 (Or.inl h.2.2.2), No id k ⟨h.1, h.2.1, h.2.2.1⟩]
  · intro q hs
    have main : ∃ m', f_X12_statement M = some (0, m') ∧ m' 147 17 = nI q := by
      unfold ts at hs
      cases w : tp L T p with
      | none =>
        rw [w] at hs
        have hq := Option.some.inj hs
        subst hq
        have e0 : f_X12_isLetter (tx L T p) = some 0 := by
          unfold tx
          by_cases z : p < L
          · rw [if_pos z, kd_il _ (by have := hb p z; omega)]
            have : tn (T p) = none := by unfold tp at w; rw [if_pos z] at w; exact w
            rw [this]; rfl
          · rw [if_neg z]; decide
        refine ⟨M, ?_, h17⟩
        unfold f_X12_statement
        rw [xn_next hR hL h17 (by omega), mt_b1E, e0, mt_b1E, if_pos rfl]
      | some d =>
        rw [w] at hs
        obtain ⟨t1, t2, t3⟩ := tp_le w
        simp only [tq] at hs
        rw [go d w]
        cases z : sp_find (fun i => (td L T (p + 1 + i)).isNone) d with
        | some i =>
          rw [z] at hs
          have hq := Option.some.inj hs
          subst hq
          obtain ⟨z1, z2⟩ := sp_find_lt z
          have z3 : td L T (p + 1 + i) = none := Option.isNone_iff_eq_none.mp z2
          have z4 : ∀ i', i' < i → ∃ v, td L T (p + 1 + i') = some v := fun i' hi' => by
            cases u : td L T (p + 1 + i') with
            | some v => exact ⟨v, rfl⟩
            | none =>
              exfalso
              have hf : sp_find (fun i => (td L T (p + 1 + i)).isNone) d ≠ some i := by
                intro hh
                have hmin : ∀ n, n ≤ d → ∀ i'', sp_find (fun i => (td L T (p + 1 + i)).isNone) n = some i'' → i'' ≤ i' ∨ n ≤ i' := by
                  intro n
                  induction n with
                  | zero => intro _ i'' h; cases h
                  | succ n ih =>
                    intro hn i'' h
                    simp only [sp_find] at h
                    cases v : sp_find (fun i => (td L T (p + 1 + i)).isNone) n with
                    | some x =>
                      rw [v] at h
                      have hx := Option.some.inj h
                      subst hx
                      rcases ih (by omega) x v with y | y
                      · exact Or.inl y
                      · have := (sp_find_lt v).1
                        exact Or.inl (by omega)
                    | none =>
                      rw [v] at h
                      simp only at h
                      have hall := sp_find_nn v
                      have hni : n ≤ i' := by
                        rcases Nat.lt_or_ge i' n with y | y
                        · have := hall i' y
                          simp only [u] at this
                          exact absurd this (by decide)
                        · exact y
                      by_cases y : (td L T (p + 1 + n)).isNone = true
                      · rw [if_pos y] at h
                        have hx := Option.some.inj h
                        exact Or.inl (by omega)
                      · rw [if_neg y] at h
                        cases h
                rcases hmin d (Nat.le_refl _) i hh with y | y
                · omega
                · omega
              exact hf z
          obtain ⟨m1, r1, a1⟩ := xr_allNo hRN hL hb N17 hp hj t3 z1 z4 z3
          rw [r1, mt_b2E, if_pos rfl]
          exact ⟨m1, rfl, a1⟩
        | none =>
          rw [z] at hs
          simp only at hs
          have hn := sp_find_nn z
          have hg : ∀ i, i < d → ∃ v, td L T (p + 1 + i) = some v := fun i hi => by
            have := hn i hi
            cases u : td L T (p + 1 + i) with
            | none => rw [u] at this; cases this
            | some v => exact ⟨v, rfl⟩
          have hne : ¬ (p + 1 + d < L ∧ T (p + 1 + d) = 59) := fun u => by rw [if_pos u] at hs; cases hs
          rw [if_neg hne] at hs
          have hq := Option.some.inj hs
          subst hq
          obtain ⟨m1, r1, a1, b1, f1⟩ := xr_all hRN hL hb N17 hp hj t3 hg
          have hR1 : xR m1 L T := xR_fr hRN (fun id k h => f1 id k h.1 (Or.inl h.2))
          have e59 : ¬ tx L T (p + 1 + d) = 59 := fun u => hne ((tx_59 hb).mp u)
          rw [r1, mt_b2E, if_neg (by decide), xn_next hR1 hL a1 (by omega), mt_b1E, if_neg e59]
          exact ⟨m1, rfl, a1⟩
    obtain ⟨m', h1, h2⟩ := main
    exact ⟨m', h1, h2, fr_X12_statement _ h1⟩
/-- what the reference has read -/
def xW (m : mt_M) (L : Nat) (T : Nat → Nat) (j : Nat) : Prop := ∀ i, i < j → m 157 i = nI (T (pl L T i)) ∧ m 158 i = nI (pl L T i) ∧ tl L T (pl L T i) i m
theorem xs_parse {R : Type} (EX : Int32 → mt_M → Option R) (hR : xR M L T) (hL : L ≤ 96) (hb : ∀ k, k < L → T k ≤ 255) (h17 : M 147 17 = 0) (h18 : M 147 18 = 0) {K : Nat} (hK : eK L T K) :
    ∃ g m, mt_lp2 (fun k5 (x3 : Int32) (M4 : mt_M) => mt_lt (EX x3 M4) (fun j7 => if x3 = 0 then j7 else mt_lt (mt_b2 (f_X12_statement M4) (fun (r31 : Int32) (M32 : mt_M) => mt_lt (fun (v33 : Int32) => mt_lt (mt_wr M32 147 18 ((M32 147 18) + v33)) (fun (M36 : mt_M) => k5 r31 M36)) (fun j34 => if r31 = 0 then j34 (0 : Int32) else j34 (1 : Int32)))) (fun j28 => if (M4 147 17) < (M4 147 16) then j28 else if (M4 147 18) = 0 then j28 else j7))) mt_FU (1 : Int32) M = EX g m ∧ (fn L T K → g = 1 ∧ m 147 18 = nI K ∧ xW m L T K) ∧ (¬ fn L T K → g = 0 ∧ m 147 17 = sp_om (ts L T (pl L T K))) ∧ ∀ id k : Nat, ((id ≠ 147 ∨ k ≠ 17) ∧ (id ≠ 147 ∨ k ≠ 18) ∧ id ≠ 157 ∧ id ≠ 158 ∧ id ≠ 159) → m id k = M id k := by
  obtain ⟨k1, k2, k3⟩ := eK_le hK hL
  refine mt_lz2 (P := fun r => ∃ g m, r = EX g m ∧ (fn L T K → g = 1 ∧ m 147 18 = nI K ∧ xW m L T K) ∧ (¬ fn L T K → g = 0 ∧ m 147 17 = sp_om (ts L T (pl L T K))) ∧ ∀ id k : Nat, ((id ≠ 147 ∨ k ≠ 17) ∧ (id ≠ 147 ∨ k ≠ 18) ∧ id ≠ 157 ∧ id ≠ 158 ∧ id ≠ 159) → m id k = M id k)
    (fun j (x : Int32) (m : mt_M) => ((j ≤ K ∧ x = 1 ∧ m 147 17 = nI (pl L T j) ∧ m 147 18 = nI j ∧ xW m L T j) ∨ (j = K + 1 ∧ x = 0 ∧ ¬ fn L T K ∧ m 147 17 = sp_om (ts L T (pl L T K)))) ∧ ∀ id k : Nat, ((id ≠ 147 ∨ k ≠ 17) ∧ (id ≠ 147 ∨ k ≠ 18) ∧ id ≠ 157 ∧ id ≠ 158 ∧ id ≠ 159) → m id k = M id k) (K + 1) (by omega) ?_ ?_ ⟨Or.inl ⟨by omega, rfl, h17, h18, fun i hi => by omega⟩, fun _ _ _ => rfl⟩
  · rintro j hj x m ⟨hI, hf⟩ c
    obtain ⟨i1, rfl, i3, i4, i5⟩ := hI.resolve_right (fun q => by omega)
    have hRm : xR m L T := ⟨(hf 147 16 ⟨Or.inr (by decide), Or.inr (by decide), by decide, by decide, by decide⟩).trans hR.1, fun k hk => (hf 156 k ⟨Or.inl (by decide), Or.inl (by decide), by decide, by decide, by decide⟩).trans (hR.2 k hk)⟩
    have hpj : pl L T j ≤ 96 := by
      by_cases z : j = K
      · subst z; exact k1
      · have := eK_pl hK hL (show j < K by omega); omega
    rw [mt_ltE, if_neg (by decide), mt_ltE, i3, i4, hRm.1]
    by_cases zf : fn L T j
    · have hjK : j = K := by
        by_cases z : j = K
        · exact z
        · exact absurd (Or.inl zf) (hK.2 j (by omega))
      subst hjK
      right
      rw [if_neg (nI_nlt zf.2 (by omega)), if_neg (nI_ne0 (by have := zf.1; omega) (by omega))]
      exact ⟨1, m, rfl, fun _ => ⟨rfl, i4, i5⟩, fun q => absurd zf q, hf⟩
    · left
      have hj47 : j ≤ 47 := by
        by_cases z : j = K
        · subst z; exact k3 zf
        · have h1 := eK_pl hK hL (show j < K by omega)
          have h2 := pl_ge L T j
          omega
      have est := xs_stmt hRm hL hb i3 i4 hj47 (by omega)
      have ego : ∀ B : Option R, (if nI (pl L T j) < nI L then B else if nI j = 0 then B else EX 1 m) = B := fun B => by
        by_cases z : pl L T j < L
        · rw [if_pos (nI_lt z (by omega))]
        · have z0 : j = 0 := by
            by_cases w : j = 0
            · exact w
            · exact absurd ⟨by omega, by omega⟩ zf
          rw [if_neg (nI_nlt (by omega) (by omega)), if_pos (by rw [z0]; rfl)]
      rw [ego]
      by_cases hjK : j = K
      · subst hjK
        obtain ⟨q, hq⟩ := eK_bad hK zf
        obtain ⟨m', s1, s2, s3⟩ := est.2 q hq
        have s18 : m' 147 18 = nI j := (s3 147 18 ⟨Or.inr (by decide), by decide, by decide, by decide⟩).trans i4
        rw [s1, mt_b2E, mt_ltE, if_pos rfl]
        refine ⟨0, mt_wr m' 147 18 (nI j + 0), ⟨Or.inr ⟨rfl, rfl, zf, ?_⟩, fun id k h => ?_⟩, by
          show mt_lt (mt_wr m' 147 18 (m' 147 18 + 0)) (fun M36 => c 0 M36) = _
          rw [mt_ltE, s18]⟩
        · rw [mt_wr_n (by decide), s2, hq]; rfl
        · rw [mt_wr_ne2 h.2.1, s3 id k ⟨h.1, h.2.2⟩]; exact hf id k h
      · obtain ⟨g1, g2, g3⟩ := eK_step hK (show j < K by omega)
        obtain ⟨m', s1, s2, s3, s4, s5, s6, s7, s8⟩ := est.1 g1
        have s18 : m' 147 18 = nI j := (s8 147 18 ⟨Or.inr (by decide), by decide, by decide, by decide⟩).trans i4
        rw [s1, mt_b2E, mt_ltE, if_neg (by decide)]
        refine ⟨1, mt_wr m' 147 18 (nI (j + 1)), ⟨Or.inl ⟨by omega, rfl, ?_, mt_wr_s _ _ _ _, fun i hi => ?_⟩, fun id k h => ?_⟩, by
          show mt_lt (mt_wr m' 147 18 (m' 147 18 + 1)) (fun M36 => c 1 M36) = _
          rw [mt_ltE, s18, nI_1]⟩
        · rw [mt_wr_n (by decide), s2]; rfl
        · rw [mt_wr_ne (by decide), mt_wr_ne (by decide)]
          by_cases z : i = j
          · subst z
            exact ⟨s3, s4, tl_eq s5 (fun k _ => by rw [mt_wr_ne (by decide)])⟩
          · obtain ⟨w1, w2, w3⟩ := i5 i (by omega)
            obtain ⟨v1, v2⟩ := s6 i (by omega)
            exact ⟨v1.trans w1, v2.trans w2, tl_eq w3 (fun k hk => by rw [mt_wr_ne (by decide), s7 k (by omega)])⟩
        · rw [mt_wr_ne2 h.2.1, s8 id k ⟨h.1, h.2.2⟩]; exact hf id k h
  · rintro x m ⟨hI, hf⟩ c
    obtain ⟨i1, rfl, i3, i4⟩ := hI.resolve_left (fun q => by omega)
    rw [mt_ltE, if_pos rfl]
    exact ⟨0, m, rfl, fun q => absurd q i3, fun _ => ⟨rfl, i4⟩, hf⟩
end XQ

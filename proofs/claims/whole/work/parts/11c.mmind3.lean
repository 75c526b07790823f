/-! THE REFERENCE: intervals, lasts, turns, month, swap, lots, judge -/
/-- packs of all things in turn: m packs -/
def hs_gm (A : hs_A) : Nat → hs_A
  | 0 => A
  | m + 1 => hs_buy (hs_gm A m) (m % A 6 0) 1
theorem hs_ok_gm {A : hs_A} (h : hs_ok A) (m : Nat) : hs_ok (hs_gm A m) := by
  induction m with
  | zero => exact h
  | succ m ih => exact hs_ok_buy ih _ 1
theorem hs_gm_6 (A : hs_A) (m : Nat) {j : Nat} (h : j ≠ 4) : hs_gm A m 6 j = A 6 j := by
  induction m with
  | zero => rfl
  | succ m ih => simp only [hs_gm]; rw [hs_buy_n _ _ _ h, ih]
theorem hs_gm_k {A : hs_A} (hok : hs_ok A) (k : Nat) : hs_gm A (k * A 6 0) = hs_bP A k (A 6 0) := by
  induction k with
  | zero => rw [Nat.zero_mul, hs_bP_0 hok _ (Nat.le_refl _)]; rfl
  | succ k ih =>
    rw [← hs_bP_s, ← ih]
    have key : ∀ i, i ≤ A 6 0 → hs_gm A (k * A 6 0 + i) = hs_bP (hs_gm A (k * A 6 0)) 1 i := by
      intro i
      induction i with
      | zero => intro _; rfl
      | succ i ih2 =>
        intro hi
        rw [← Nat.add_assoc]
        simp only [hs_gm, hs_bP]
        rw [ih2 (by omega), Nat.add_comm, Nat.add_mul_mod_self_right, Nat.mod_eq_of_lt (by omega)]
    rw [Nat.succ_mul, key _ (Nat.le_refl _)]
theorem sp_la_sh (A : hs_A) : True := trivial
section XR3
variable {M : mt_M} {A : hs_A} {t : Nat}
theorem xr_enough (hv : rm M A) (hok : hs_ok A) (htb : hs_tb A) {k g : Nat} (hk : k ≤ 9) (hg : 0 < g) (hg2 : g ≤ 1000) : ∃ M', f_X12_isEnough (nI k) (nI g) M = some (if sp_en A k g = true then 1 else 0, M') ∧ mq M M' := by
  have h7 := hok.1
  obtain ⟨M1, hT, hv1, hF⟩ := xr_mind hv
  have e5 := hv1.1.2.2.2.2.2.1
  have hkn : k * A 6 0 ≤ 9 * 7 := Nat.mul_le_mul hk h7
  simp only [f_X12_isEnough, hT, mt_b1E, mt_ltE, mc_1, e5]
  refine mt_lz2 (P := fun r => ∃ M', r = some (if sp_en A k g = true then 1 else 0, M') ∧ mq M M') (fun i x m => x = nI i ∧ rm m (hs_iv A k g i) ∧ mi M1 m) 30 (by decide) ?_ ?_ ⟨rfl, hv1, mi.rfl' M1⟩
  · rintro i hi x m ⟨rfl, hm, hx⟩ kk
    left
    obtain ⟨S, eS⟩ : ∃ S, S = hs_iv A k g i := ⟨_, rfl⟩
    have okS : hs_ok S := by rw [eS]; exact hs_ok_iv hok k g i
    have S0 : S 6 0 = A 6 0 := by rw [eS, hs_iv_0]
    rw [← eS] at hm
    have hgne : nI g ≠ 0 := nI_ne0 hg (by omega)
    have hend : ∀ (N : mt_M) (B : hs_A), rm N B → hs_ok B → mi M1 N → hs_day B = hs_iv A k g (i + 1) → ∃ c1 c2, (c1 = nI (i + 1) ∧ rm c2 (hs_iv A k g (i + 1)) ∧ mi M1 c2) ∧ (mt_b2 (f_X12_goesDay N) fun r23 M24 => kk (nI i + 1) M24) = kk c1 c2 := by
      intro N B hN okB hxN hB
      obtain ⟨N2, q1, q2, q3⟩ := xr_goes hN okB
      rw [hB] at q2
      exact ⟨_, N2, ⟨rfl, q2, hxN.trans q3⟩, by rw [q1, mt_b2E, nI_1]⟩
    rw [mi_30, if_neg (nI_ge hi (by omega)), pk_rem (by omega) hg (by omega)]
    by_cases hz : i % g = 0
    · have hz2 : nI (i % g) = 0 := by rw [hz]; rfl
      refine mt_lz2 (P := fun o => ∃ c1 c2, (c1 = nI (i + 1) ∧ rm c2 (hs_iv A k g (i + 1)) ∧ mi M1 c2) ∧ o = kk c1 c2) (fun j x m => x = nI j ∧ rm m (hs_gm S j) ∧ mi M1 m) (k * A 6 0) (by omega) ?_ ?_ ⟨rfl, hm, hx⟩
      · rintro j hj x m ⟨rfl, hm, hx⟩ k2
        left
        have hn0 : 0 < A 6 0 := by
          by_cases q : A 6 0 = 0
          · rw [q, Nat.mul_zero] at hj; omega
          · omega
        have h8 := hm.1.1
        rw [hs_gm_6 _ _ (by decide), S0] at h8
        have hmod := Nat.mod_lt j hn0
        obtain ⟨N, q1, q2, q3⟩ := xr_gets hm (hs_ok_gm okS j) (t := j % A 6 0) (by rw [hs_gm_6 _ _ (by decide), S0]; exact hmod)
        refine ⟨_, N, ⟨rfl, ?_, hx.trans q3⟩, ?_⟩
        · simp only [hs_gm]; rw [S0]; exact q2
        · rw [h8, pk_mul, if_neg (nI_ge hj (by omega)), mt_ck_t hgne, if_pos hz2, mt_ck_t (nI_ne0 hn0 (by omega)), pk_rem (by omega) hn0 (by omega), q1, mt_b1E, nI_1]
      · rintro x m ⟨rfl, hm, hx⟩ k2
        have h8 := hm.1.1
        rw [hs_gm_6 _ _ (by decide), S0] at h8
        rw [h8, pk_mul, if_pos (nI_le (Nat.le_refl _) (by omega))]
        have e : hs_gm S (k * A 6 0) = hs_bP S k (A 6 0) := by
          have h := hs_gm_k okS k
          rw [S0] at h
          exact h
        refine hend m _ hm (hs_ok_gm okS _) hx ?_
        rw [e]
        simp only [hs_iv]
        rw [if_pos hz, ← eS]
    · have hz2 : ¬ nI (i % g) = 0 := nI_ne0 (by omega) (by have := Nat.mod_lt i hg; omega)
      refine mt_lz2 (P := fun o => ∃ c1 c2, (c1 = nI (i + 1) ∧ rm c2 (hs_iv A k g (i + 1)) ∧ mi M1 c2) ∧ o = kk c1 c2) (fun j x m' => m' = m) 0 (by decide) ?_ ?_ rfl
      · intro j hj; exact absurd hj (by omega)
      · rintro x m' rfl k2
        have hB : hs_day S = hs_iv A k g (i + 1) := by simp only [hs_iv]; rw [if_neg hz, ← eS]
        have h9 := hend m' S hm okS hx hB
        rw [mt_ck_t hgne, if_neg hz2, ite_self]
        exact h9
  · rintro x m ⟨rfl, hm, hx⟩ kk
    obtain ⟨M3, g1, g2⟩ := hF m hx
    have d5 := hm.1.2.2.2.2.2.1
    have hb := (hs_iv_5 hok k g 30).2
    have htb5 := htb.2.1
    have e : (sp_en A k g = true) = (hs_iv A k g 30 6 5 = A 6 5) := by unfold sp_en; rw [sp_e30]; simp
    rw [mi_30, if_pos (nI_le (Nat.le_refl _) (by omega)), d5, g1]
    simp only [mt_b1E]
    by_cases z : hs_iv A k g 30 6 5 = A 6 5
    · rw [z, if_pos rfl, if_pos (by rw [e]; exact z)]
      simp only [true_or, or_true, mt_ckE]
      exact ⟨M3, rfl, g2⟩
    · rw [if_neg (fun w => z ((nI_eq (by omega) (by omega)).mp w)), if_neg (by rw [e]; exact z)]
      simp only [true_or, or_true, mt_ckE]
      exact ⟨M3, rfl, g2⟩
theorem xr_interval (hv : rm M A) (hok : hs_ok A) (htb : hs_tb A) {k : Nat} (hk1 : 1 ≤ k) (hk : k ≤ 9) : ∃ M', f_X12_interval (nI k) M = some (sp_ov (sp_il A k sp_n30), M') ∧ mq M M' := by
  have eb : f_X12_bound (nI k) 1 9 = some 0 := by
    unfold f_X12_bound
    rw [if_pos (show (1 : Int32) ≤ nI k from nI_le hk1 (by omega)), if_pos (by rw [mi_9]; exact nI_le hk (by decide))]
  simp only [f_X12_interval, eb, mt_b1E, if_true]
  refine mt_lz2 (P := fun r => ∃ M', r = some (sp_ov (sp_il A k sp_n30), M') ∧ mq M M') (fun i x m => x = nI (30 - i) ∧ mq M m ∧ sp_il A k sp_n30 = sp_il A k (30 - i)) 30 (by decide) ?_ ?_ ⟨rfl, mq.rfl' M, by rw [sp_e30]⟩
  · rintro i hi x m ⟨rfl, hm, he⟩ kk
    obtain ⟨j, hj⟩ : ∃ j, 30 - i = j + 1 := ⟨29 - i, by omega⟩
    rw [hj] at he ⊢
    obtain ⟨M', h1, h2⟩ := xr_enough (hm.rm hv) hok htb (k := k) (g := j + 1) hk (by omega) (by omega)
    rw [if_neg (nI_nle (show 0 < j + 1 by omega) (by omega)), h1]
    simp only [mt_b2E, mt_ltE]
    simp only [sp_il] at he
    by_cases hl : sp_en A k (j + 1) = true
    · right
      rw [if_pos hl] at he
      simp only [if_pos hl, mt_10, if_false]
      rw [he]
      exact ⟨M', rfl, hm.trans h2⟩
    · left
      rw [if_neg hl] at he
      simp only [if_neg hl, if_true, pk_m1]
      exact ⟨_, _, ⟨by rw [show 30 - (i + 1) = j by omega], hm.trans h2, by rw [he, show 30 - (i + 1) = j by omega]⟩, rfl⟩
  · rintro x m ⟨rfl, hm, he⟩ kk
    rw [if_pos (show nI (30 - 30) ≤ (0 : Int32) by decide), he]
    exact ⟨m, rfl, hm⟩
theorem xr_lacksOne (hv : rm M A) (hok : hs_ok A) : f_X12_lacksOne M = some (nI (sp_ct A)) := by
  have h7 := hok.1
  unfold f_X12_lacksOne
  refine mt_lz2 (P := fun r => r = some (nI (sp_ct A))) (fun i x y => x = nI (sp_sm i (fun t => if A 3 t < A 2 t then 1 else 0)) ∧ y = nI i) (A 6 0) (by omega) ?_ ?_ ⟨rfl, rfl⟩
  · rintro i hi x y ⟨rfl, rfl⟩ k
    left
    have hin : vp_in (nI i) 7 := vp_in_nI (by omega) (by omega)
    have hcl : (nI i).toNatClampNeg = i := nI_clamp (by omega)
    obtain ⟨-, -, a3, a4, -⟩ := hv.2 i hi (by omega)
    obtain ⟨-, -, b2, b3⟩ := hok.2 i hi
    refine ⟨_, _, ⟨rfl, rfl⟩, ?_⟩
    rw [hv.1.1, if_neg (nI_ge hi (by omega))]
    simp only [mt_ltE, mt_ci_t hin, hcl, a3, a4, nI_1, sp_sm]
    by_cases z : A 3 i < A 2 i
    · rw [if_neg (nI_ge z (by omega)), if_pos z]
    · rw [if_pos (nI_le (by omega) (by omega)), if_neg z, mi_0, nI_add]
  · rintro x y ⟨rfl, rfl⟩ k
    rw [hv.1.1, if_pos (nI_le (Nat.le_refl _) (by omega))]
    rfl
theorem xr_lasts (hv : rm M A) (hok : hs_ok A) {k : Nat} (hk1 : 1 ≤ k) (hk : k ≤ 7) : ∃ M', f_X12_lasts (nI k) M = some (sp_ov (sp_la A k), M') ∧ mq M M' := by
  obtain ⟨M1, hT, hv1, hF⟩ := xr_mind hv
  have eb : f_X12_bound (nI k) 1 7 = some 0 := by
    unfold f_X12_bound
    rw [if_pos (show (1 : Int32) ≤ nI k from nI_le hk1 (by omega)), if_pos (by rw [mi_7]; exact nI_le hk (by decide))]
  have ex : ∀ (x : Int32) (m : mt_M), mi M1 m → ∃ M', (mt_b1 (f_X12_forgets m) fun M14 => some (x, M14)) = some (x, M') ∧ mq M M' := fun x m h => by
    obtain ⟨M3, g1, g2⟩ := hF m h
    exact ⟨M3, by rw [g1]; rfl, g2⟩
  have pos : sp_la A k ≠ none → 0 ≤ sp_ov (sp_la A k) := fun h => (sp_ov_neg (fun i hi => by
    unfold sp_la at hi
    cases q : sp_find (fun d => decide (k ≤ sp_ct (hs_days A d))) sp_n60 with
    | none => rw [q] at hi; cases hi
    | some j =>
      rw [q] at hi
      have h1 := (sp_find_lt q).1
      rw [sp_e60] at h1
      obtain rfl := Option.some.inj hi
      omega)).2.1.mpr h
  simp only [f_X12_lasts, eb, mt_b1E, if_true, hT]
  refine mt_lz3 (P := fun r => ∃ M', r = some (sp_ov (sp_la A k), M') ∧ mq M M') (fun i x y m => mi M1 m ∧ ((x = -9 ∧ y = nI (i + 1) ∧ rm m (hs_days A i) ∧ ∀ j, j < i → decide (k ≤ sp_ct (hs_days A j)) = false) ∨ (x = sp_ov (sp_la A k) ∧ sp_la A k ≠ none))) 60 (by decide) ?_ ?_ ⟨mi.rfl' M1, Or.inl ⟨rfl, rfl, hv1, fun j hj => absurd hj (by omega)⟩⟩
  · rintro i hi x y m ⟨hx, ⟨rfl, rfl, hm, hno⟩ | ⟨rfl, hne⟩⟩ kk
    · left
      have okD := hs_ok_days hok i
      obtain ⟨M', h1, h2, h3⟩ := xr_goes hm okD
      have hcl := sp_ct_le (hs_days A i)
      have hD0 := okD.1
      simp only [mt_ltE]
      rw [mi_60, if_neg (nI_nlt (show i + 1 ≤ 60 by omega) (by omega)), if_neg (show ¬ (0 : Int32) ≤ -9 by decide), xr_lacksOne hm okD, mt_b1E, h1]
      simp only [mt_b2E, nI_1]
      by_cases hl : k ≤ sp_ct (hs_days A i)
      · rw [if_neg (nI_nlt hl (by omega))]
        have e : sp_la A k = some (i + 1) := by
          unfold sp_la
          rw [sp_find_some (by rw [sp_e60]; exact hi) (by simpa using hl) hno]
          rfl
        exact ⟨_, _, M', ⟨hx.trans h3, Or.inr ⟨by rw [e]; rfl, by rw [e]; exact fun h => by cases h⟩⟩, rfl⟩
      · rw [if_pos (nI_lt (by omega) (by omega))]
        refine ⟨_, _, M', ⟨hx.trans h3, Or.inl ⟨rfl, rfl, h2, ?_⟩⟩, rfl⟩
        intro j hj
        by_cases q : j = i
        · subst q; simpa using hl
        · exact hno j (by omega)
    · right
      simp only [mt_ltE]
      rw [if_pos (pos hne), ite_self]
      exact ex _ m hx
  · rintro x y m ⟨hx, ⟨rfl, rfl, hm, hno⟩ | ⟨rfl, hne⟩⟩ kk
    · have e : sp_la A k = none := by
        unfold sp_la
        rw [sp_find_none (by rw [sp_e60]; exact hno)]
        rfl
      simp only [mt_ltE]
      rw [mi_60, if_pos (nI_lt (by decide) (by decide)), e]
      exact ex _ m hx
    · simp only [mt_ltE]
      rw [if_pos (pos hne), ite_self]
      exact ex _ m hx
theorem xr_short (hv : rm M A) (hok : hs_ok A) : f_X12_isShort M = some (if sp_sr A (A 6 0) = true then 1 else 0) := by
  have h7 := hok.1
  unfold f_X12_isShort
  refine mt_lz1 (P := fun r => r = some (if sp_sr A (A 6 0) = true then 1 else 0)) (fun i x => x = nI i ∧ sp_sr A i = false) (A 6 0) (by omega) ?_ ?_ ⟨rfl, rfl⟩
  · rintro i hi x ⟨rfl, hno⟩ k
    have hin : vp_in (nI i) 7 := vp_in_nI (by omega) (by omega)
    have hcl : (nI i).toNatClampNeg = i := nI_clamp (by omega)
    obtain ⟨-, -, a3, a4, -⟩ := hv.2 i hi (by omega)
    obtain ⟨-, -, b2, b3⟩ := hok.2 i hi
    rw [hv.1.1, if_neg (nI_ge hi (by omega))]
    simp only [mt_ltE, mt_ci_t hin, hcl, a3, a4, nI_1]
    by_cases z : A 3 i < A 2 i
    · right
      rw [if_neg (nI_ge z (by omega)), if_pos (sp_sr_t hi z)]
    · left
      rw [if_pos (nI_le (by omega) (by omega))]
      refine ⟨_, ⟨rfl, ?_⟩, rfl⟩
      simp only [sp_sr]
      rw [hno]
      simpa using z
  · rintro x ⟨rfl, hno⟩ k
    rw [hv.1.1, if_pos (nI_le (Nat.le_refl _) (by omega)), hno]
    rfl
theorem xr_turns (hv : rm M A) (hok : hs_ok A) (htb : hs_tb A) (hd : A 6 2 ≤ 2000) {n : Nat} (hn1 : 1 ≤ n) (hn : n ≤ 60) {w : Nat} (hw : w ≤ 1) : ∃ M', f_X12_turns (nI n) (nI w) M = some (nI (3 * sp_tc w A n + (hs_tn w A n 6 4 - A 6 4) + 2 * (hs_tn w A n 6 5 - A 6 5)), M') ∧ mq M M' ∧ A 6 4 ≤ hs_tn w A n 6 4 ∧ A 6 5 ≤ hs_tn w A n 6 5 := by
  have h7 := hok.1
  obtain ⟨M1, hT, hv1, hF⟩ := xr_mind hv
  have e4 := hv1.1.2.2.2.2.1
  have e5 := hv1.1.2.2.2.2.2.1
  have eb : f_X12_bound (nI n) 1 60 = some 0 := by
    unfold f_X12_bound
    rw [if_pos (show (1 : Int32) ≤ nI n from nI_le hn1 (by omega)), if_pos (by rw [mi_60]; exact nI_le hn (by decide))]
  have ei : f_X12_isIn (nI w) 0 1 = some 1 := by
    rcases (show w = 0 ∨ w = 1 by omega) with rfl | rfl <;> rfl
  have mono4 : ∀ d, A 6 4 ≤ hs_tn w A d 6 4 := by
    intro d
    induction d with
    | zero => exact Nat.le_refl _
    | succ d ih =>
      simp only [hs_tn]
      rw [hs_day_n _ (by decide) (by decide) (by decide)]
      split
      · have : ∀ (B : hs_A) i, B 6 4 ≤ hs_bb 2 B i 6 4 := by
          intro B i
          induction i with
          | zero => exact Nat.le_refl _
          | succ i ih2 =>
            simp only [hs_bb]
            split
            · exact ih2
            · rw [hs_buy_4]; omega
        exact Nat.le_trans ih (this _ _)
      · exact ih
  have mono5 : ∀ d, A 6 5 ≤ hs_tn w A d 6 5 := by
    intro d
    induction d with
    | zero => exact Nat.le_refl _
    | succ d ih =>
      simp only [hs_tn]
      split
      · have h1 := (hs_day_5 (hs_ok_bb (hs_ok_tn hok w d) 2 (A 6 0))).1
        rw [hs_bb_6 _ _ _ (by decide)] at h1
        omega
      · have h1 := (hs_day_5 (hs_ok_tn hok w d)).1
        omega
  unfold f_X12_turns
  rw [eb, mt_b1E, mt_ltE, if_pos rfl, ei, mt_b1E, if_neg (show ¬ (1 : Int32) = 0 by decide)]
  dsimp only
  rw [if_pos rfl, hT, mt_b1E, mt_ltE]
  rw [mt_ltE, mc_0, mc_1, e4, e5]
  suffices hh : ∃ M', mt_lp3 _ mt_FU (0 : Int32) (0 : Int32) M1 = some (nI (3 * sp_tc w A n + (hs_tn w A n 6 4 - A 6 4) + 2 * (hs_tn w A n 6 5 - A 6 5)), M') ∧ mq M M' by
    obtain ⟨M', q1, q2⟩ := hh
    exact ⟨M', q1, q2, mono4 n, mono5 n⟩
  refine mt_lz3 (P := fun r => ∃ M', r = some (nI (3 * sp_tc w A n + (hs_tn w A n 6 4 - A 6 4) + 2 * (hs_tn w A n 6 5 - A 6 5)), M') ∧ mq M M') (fun i x y m => x = nI (sp_tc w A i) ∧ y = nI i ∧ rm m (hs_tn w A i) ∧ mi M1 m) n (by omega) ?_ ?_ ⟨rfl, rfl, hv1, mi.rfl' M1⟩
  · rintro i hi x y m ⟨rfl, rfl, hm, hx⟩ kk
    left
    obtain ⟨S, eS⟩ : ∃ S, S = hs_tn w A i := ⟨_, rfl⟩
    have okS : hs_ok S := by rw [eS]; exact hs_ok_tn hok w i
    have S0 : S 6 0 = A 6 0 := by rw [eS, hs_tn_6 _ _ _ (by decide) (by decide) (by decide) (by decide)]
    have S2 : S 6 2 = A 6 2 + i := by rw [eS, hs_tn_2]
    rw [← eS] at hm
    have hgo : ∀ (J : Int32 → Option (Int32 × mt_M)), (if nI w = 0 then (if (m 147 10 - m 147 10 / (2 : Int32) * (2 : Int32)) = 0 then J 1 else J 0) else mt_b1 (f_X12_isShort m) J) = J (if sp_go w S = true then 1 else 0) := by
      intro J
      unfold sp_go
      by_cases hw0 : w = 0
      · rw [if_pos hw0, if_pos (show nI w = 0 by rw [hw0]; rfl), hm.1.2.2.1, mi_2, pk_rem (by omega) (by decide) (by decide), S2]
        have h2 : (A 6 2 + i) % 2 = 0 ∨ (A 6 2 + i) % 2 = 1 := by omega
        rcases h2 with h | h
        · rw [h]; rfl
        · rw [h]; rfl
      · rw [if_neg hw0, if_neg (nI_ne0 (by omega) (by omega)), xr_short hm okS, mt_b1E]
    have hend : ∀ (c : Nat) (N : mt_M) (B : hs_A), rm N B → hs_ok B → mi M1 N → hs_day B = hs_tn w A (i + 1) → c = sp_tc w A (i + 1) → ∃ c1 c2 c3, (c1 = nI (sp_tc w A (i + 1)) ∧ c2 = nI (i + 1) ∧ rm c3 (hs_tn w A (i + 1)) ∧ mi M1 c3) ∧ (mt_b2 (f_X12_goesDay N) fun r34 M35 => kk (nI c) (nI (i + 1)) M35) = kk c1 c2 c3 := by
      intro c N B hN okB hxN hB hc
      obtain ⟨N2, q1, q2, q3⟩ := xr_goes hN okB
      rw [hB] at q2
      exact ⟨_, _, N2, ⟨rfl, rfl, q2, hxN.trans q3⟩, by rw [q1, mt_b2E, hc]⟩
    rw [if_neg (nI_ge hi (by omega))]
    simp only [mt_ltE, nI_1, hgo]
    by_cases hg : sp_go w S = true
    · simp only [if_pos hg, mt_10, if_false, nI_1]
      refine mt_lz2 (P := fun o => ∃ c1 c2 c3, (c1 = nI (sp_tc w A (i + 1)) ∧ c2 = nI (i + 1) ∧ rm c3 (hs_tn w A (i + 1)) ∧ mi M1 c3) ∧ o = kk c1 c2 c3) (fun j x m => x = nI j ∧ rm m (hs_bb 2 S j) ∧ mi M1 m) (A 6 0) (by omega) ?_ ?_ ⟨rfl, hm, hx⟩
      · rintro j hj x m ⟨rfl, hm, hx⟩ k2
        left
        have okB := hs_ok_bb okS 2 j
        have e0 : hs_bb 2 S j 6 0 = A 6 0 := by rw [hs_bb_6 _ _ _ (by decide), S0]
        have hin : vp_in (nI j) 7 := vp_in_nI (by omega) (by omega)
        have hcl : (nI j).toNatClampNeg = j := nI_clamp (by omega)
        obtain ⟨-, -, a3, a4, -⟩ := hm.2 j (by omega) (by omega)
        obtain ⟨-, -, b2, b3⟩ := okB.2 j (by omega)
        have h8 := hm.1.1
        rw [e0] at h8
        rw [h8, if_neg (nI_ge hj (by omega))]
        simp only [mt_ci_t hin, hcl, a3, a4, mi_2, pk_mul]
        by_cases z : 2 * hs_bb 2 S j 2 j ≤ hs_bb 2 S j 3 j
        · rw [if_pos (nI_le z (by omega))]
          exact ⟨_, _, ⟨rfl, by simp only [hs_bb]; rw [if_pos z]; exact hm, hx⟩, by rw [nI_1]⟩
        · rw [if_neg (nI_ge (by omega) (by omega))]
          obtain ⟨N, q1, q2, q3⟩ := xr_gets hm okB (t := j) (by omega)
          rw [q1, mt_b1E]
          exact ⟨_, N, ⟨rfl, by simp only [hs_bb]; rw [if_neg z]; exact q2, hx.trans q3⟩, by rw [nI_1]⟩
      · rintro x m ⟨rfl, hm, hx⟩ k2
        have h8 := hm.1.1
        rw [hs_bb_6 _ _ _ (by decide), S0] at h8
        rw [h8, if_pos (nI_le (Nat.le_refl _) (by omega))]
        refine hend _ m _ hm (hs_ok_bb okS _ _) hx ?_ ?_
        · simp only [hs_tn]; rw [← eS, if_pos hg]
        · simp only [sp_tc]; rw [← eS, if_pos hg]
    · simp only [if_neg hg, if_true, mi_0, nI_add, Nat.add_zero]
      refine mt_lz2 (P := fun o => ∃ c1 c2 c3, (c1 = nI (sp_tc w A (i + 1)) ∧ c2 = nI (i + 1) ∧ rm c3 (hs_tn w A (i + 1)) ∧ mi M1 c3) ∧ o = kk c1 c2 c3) (fun j x m' => m' = m) 0 (by decide) ?_ ?_ rfl
      · intro j hj; exact absurd hj (by omega)
      · rintro x m' rfl k2
        have h9 := hend (sp_tc w A i) m' S hm okS hx (by simp only [hs_tn]; rw [← eS, if_neg hg]) (by simp only [sp_tc]; rw [← eS, if_neg hg]; rfl)
        simp only [ite_self]
        exact h9
  · rintro x y m ⟨rfl, rfl, hm, hx⟩ kk
    obtain ⟨M3, g1, g2⟩ := hF m hx
    have m4 := mono4 n
    have m5 := mono5 n
    rw [if_pos (nI_le (Nat.le_refl _) (by omega)), hm.1.2.2.2.2.1, hm.1.2.2.2.2.2.1, mi_3, mi_2, pk_mul, nI_add, pk_sub (by omega), pk_sub m5, pk_mul, nI_add, g1, mt_ltE, mt_b1E, Nat.add_sub_assoc m4]
    exact ⟨M3, rfl, g2⟩
end XR3

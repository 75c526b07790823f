/-! THE REFERENCE THINKS: it lives days in place, and puts all back -/
def mi (M M' : mt_M) : Prop := ∀ id k, id ≠ 152 → id ≠ 155 → (id ≠ 147 ∨ (k ≠ 10 ∧ k ≠ 24)) → M' id k = M id k
theorem mi.rfl' (M : mt_M) : mi M M := fun _ _ _ _ _ => rfl
theorem mi.trans {M M1 M2 : mt_M} (a : mi M M1) (b : mi M1 M2) : mi M M2 := fun id k h1 h2 h3 => (b id k h1 h2 h3).trans (a id k h1 h2 h3)
section XR
variable {M : mt_M} {A : hs_A} {t : Nat}
theorem xr_mind (hv : rm M A) : ∃ M1, f_X12_thinks M = some M1 ∧ rm M1 A ∧ ∀ M2, mi M1 M2 → ∃ M3, f_X12_forgets M2 = some M3 ∧ mq M M3 := by
  obtain ⟨M1, h1, h2, h3⟩ := xm_thinks (M := M)
  refine ⟨M1, h1, rm_eq (fun j hj => ?_) hv, fun M2 hm => ?_⟩
  · unfold rf
    simp only [h3 149 _ (by decide) (Or.inl (by decide)), h3 150 _ (by decide) (Or.inl (by decide)), h3 151 _ (by decide) (Or.inl (by decide)), h3 152 _ (by decide) (Or.inl (by decide)), h3 153 _ (by decide) (Or.inl (by decide)), h3 154 _ (by decide) (Or.inl (by decide)), h3 155 _ (by decide) (Or.inl (by decide)), h3 147 (j - 51) (by decide) (Or.inr (by omega))]
  · obtain ⟨M3, g1, -⟩ := xm_forgets (M := M2)
    exact ⟨M3, g1, xm_mind h1 (fun j _ _ => hm 160 j (by decide) (by decide) (Or.inl (by decide))) g1 (fun j _ => hm 160 j (by decide) (by decide) (Or.inl (by decide))) (fun id k h => hm id k (by omega) (by omega) (Or.inl (by omega))) (fun k h => hm 147 k (by decide) (by decide) (Or.inr (by omega))) (fun id k h => hm id k (by omega) (by omega) (Or.inl (by omega)))⟩
theorem xr_goes (hv : rm M A) (hok : hs_ok A) : ∃ M', f_X12_goesDay M = some (nI (sp_sm (A 6 0) (fun t => A 2 t - A 3 t)), M') ∧ rm M' (hs_day A) ∧ mi M M' := by
  obtain ⟨M', h1, h2⟩ := xm_goes hv hok
  exact ⟨M', h1, h2, fun id k a b c => fr_X12_goesDay M h1 id k (by omega)⟩
theorem xr_uses (hv : rm M A) (hok : hs_ok A) (ht : t < A 6 0) : ∃ M', f_X12_usesOf (nI t) M = some (nI (A 2 t - A 3 t), M') ∧ rm M' (hs_dT A t) ∧ mi M M' := by
  obtain ⟨M', h1, h2⟩ := xm_uses hv hok ht
  exact ⟨M', h1, h2, fun id k a b c => fr_X12_usesOf _ M h1 id k (by omega)⟩
theorem xr_gets (hv : rm M A) (hok : hs_ok A) (ht : t < A 6 0) : ∃ M', f_X12_gets (nI t) M = some M' ∧ rm M' (hs_buy A t 1) ∧ mi M M' := by
  obtain ⟨M', h1, h2⟩ := xm_gets hv hok ht
  exact ⟨M', h1, h2, fun id k a b c => fr_X12_gets _ M h1 id k (by omega)⟩
theorem xm_notDays {n : Nat} (hn : n ≤ 60) : f_X12_notDays (nI n) = some 0 := by
  have h : ∀ n, n < 61 → f_X12_notDays (nI n) = some 0 := by decide +kernel
  exact h n (by omega)
theorem xr_stockIn (hv : rm M A) (hok : hs_ok A) (ht : t < A 6 0) {n : Nat} (hn : n ≤ 60) : ∃ M', f_X12_stockIn (nI t) (nI n) M = some (nI (sp_sN (A 0 t) (A 1 t) (A 2 t) n (A 3 t)), M') ∧ mq M M' := by
  have hn7 := hok.1
  obtain ⟨M1, hT, hv1, hF⟩ := xr_mind hv
  have hin : vp_in (nI t) 7 := vp_in_nI (by omega) (by omega)
  have hcl : (nI t).toNatClampNeg = t := nI_clamp (by omega)
  simp only [f_X12_stockIn, xm_isT hv hok.1 ht, mt_b1E, mt_ltE, mt_10, if_false, xm_notDays hn, if_true, hT]
  refine mt_lz2 (P := fun r => ∃ M', r = some (nI (sp_sN (A 0 t) (A 1 t) (A 2 t) n (A 3 t)), M') ∧ mq M M') (fun i x m => x = nI i ∧ rm m (hs_days A i) ∧ mi M1 m) n (by omega) ?_ ?_ ⟨rfl, hv1, mi.rfl' M1⟩
  · rintro i hi x m ⟨rfl, hm, hx⟩ k
    left
    obtain ⟨M', h1, h2, h3⟩ := xr_goes hm (hs_ok_days hok i)
    refine ⟨_, _, ⟨rfl, h2, hx.trans h3⟩, ?_⟩
    rw [if_neg (nI_ge hi (by omega)), h1]
    simp only [mt_b2E, nI_1]
  · rintro x m ⟨rfl, hm, hx⟩ k
    obtain ⟨M3, g1, g2⟩ := hF m hx
    have e := (hm.2 t (by rw [hs_days_n _ _ (by decide) (by decide) (by decide)]; exact ht) (by omega)).2.2.2.1
    rw [hs_days_3, if_pos ht] at e
    rw [if_pos (nI_le (Nat.le_refl _) (by omega)), mt_ci_t hin]
    simp only [hcl, e, g1, mt_b1E]
    exact ⟨M3, rfl, g2⟩
theorem xr_lackingIn (hv : rm M A) (hok : hs_ok A) {n : Nat} (hn : n ≤ 1000) : ∃ M', f_X12_lackingIn (nI n) M = some (nI (sp_sm (A 6 0) (fun t => sp_lN (A 0 t) (A 1 t) (A 2 t) n (A 3 t))), M') ∧ mq M M' ∧ M' 147 24 = nI (sp_sm (A 6 0) (fun t => sp_qN (A 0 t) (A 1 t) (A 2 t) n (A 3 t))) := by
  obtain ⟨M1, hT, hv1, hF⟩ := xr_mind hv
  have e5 := hv1.1.2.2.2.2.2.1
  have e6 := hv1.1.2.2.2.2.2.2
  simp only [f_X12_lackingIn, hT, mt_b1E, mt_ltE, mc_1, mc_2, e5, e6]
  refine mt_lz2 (P := fun r => ∃ M', r = some (nI (sp_sm (A 6 0) (fun t => sp_lN (A 0 t) (A 1 t) (A 2 t) n (A 3 t))), M') ∧ mq M M' ∧ M' 147 24 = nI (sp_sm (A 6 0) (fun t => sp_qN (A 0 t) (A 1 t) (A 2 t) n (A 3 t)))) (fun i x m => x = nI i ∧ rm m (hs_days A i) ∧ mi M1 m) n (by omega) ?_ ?_ ⟨rfl, hv1, mi.rfl' M1⟩
  · rintro i hi x m ⟨rfl, hm, hx⟩ k
    left
    obtain ⟨M', h1, h2, h3⟩ := xr_goes hm (hs_ok_days hok i)
    refine ⟨_, _, ⟨rfl, h2, hx.trans h3⟩, ?_⟩
    rw [if_neg (nI_ge hi (by omega)), h1]
    simp only [mt_b2E, nI_1]
  · rintro x m ⟨rfl, hm, hx⟩ k
    have d5 := hm.1.2.2.2.2.2.1
    have d6 := hm.1.2.2.2.2.2.2
    rw [hs_days_65] at d5
    rw [hs_days_66] at d6
    have hx2 : mi M1 (mt_wr m 147 24 (m 155 2 - nI (A 6 6))) := fun id k a b c => by
      rw [mt_wr_ne2 (by omega)]; exact hx id k a b c
    obtain ⟨M3, g1, g2⟩ := hF _ hx2
    obtain ⟨N3, b1, b2, b3, b4⟩ := xm_forgets (M := mt_wr m 147 24 (m 155 2 - nI (A 6 6)))
    obtain rfl := Option.some.inj (b1.symm.trans g1)
    rw [if_pos (nI_le (Nat.le_refl _) (by omega)), g1]
    simp only [mt_b1E]
    refine ⟨N3, ?_, g2, ?_⟩
    · rw [d5, pk_sub (Nat.le_add_right _ _), Nat.add_sub_cancel_left]
    · rw [b4 147 24 (by decide) (Or.inr (by decide)), mt_wr_s, d6, pk_sub (Nat.le_add_right _ _), Nat.add_sub_cancel_left]
theorem xr_firstLack (hv : rm M A) (hok : hs_ok A) (ht : t < A 6 0) : ∃ M', f_X12_firstLack (nI t) M = some (sp_ov (sp_ro A t), M') ∧ mq M M' := by
  obtain ⟨M1, hT, hv1, hF⟩ := xr_mind hv
  have bu := (hok.2 t ht).2.2.1
  have ex : ∀ (x : Int32) (m : mt_M), mi M1 m → ∃ M', (mt_b1 (f_X12_forgets m) fun M11 => some (x, M11)) = some (x, M') ∧ mq M M' := fun x m h => by
    obtain ⟨M3, g1, g2⟩ := hF m h
    exact ⟨M3, by rw [g1]; rfl, g2⟩
  have pos : sp_ro A t ≠ none → 0 ≤ sp_ov (sp_ro A t) := fun h => (sp_ov_neg (fun i hi => by have := sp_ro_lt hi; omega)).2.1.mpr h
  simp only [f_X12_firstLack, hT, mt_b1E]
  refine mt_lz3 (P := fun r => ∃ M', r = some (sp_ov (sp_ro A t), M') ∧ mq M M') (fun i x y m => mi M1 m ∧ ((x = -9 ∧ y = nI (i + 1) ∧ rm m (hs_one A t i) ∧ ∀ j, j < i → decide (sp_sN (A 0 t) (A 1 t) (A 2 t) j (A 3 t) < A 2 t) = false) ∨ (x = sp_ov (sp_ro A t) ∧ sp_ro A t ≠ none))) 60 (by decide) ?_ ?_ ⟨mi.rfl' M1, Or.inl ⟨rfl, rfl, hv1, fun j hj => absurd hj (by omega)⟩⟩
  · rintro i hi x y m ⟨hx, ⟨rfl, rfl, hm, hno⟩ | ⟨rfl, hne⟩⟩ k
    · left
      obtain ⟨M', h1, h2, h3⟩ := xr_uses hm (hs_ok_one hok ht i) (t := t) (by rw [hs_one_6 _ _ _ (by decide) (by decide)]; exact ht)
      rw [hs_one_3, hs_one_r _ _ _ (by decide) (by decide)] at h1
      simp only [mt_ltE]
      rw [mi_60, if_neg (nI_nlt (show i + 1 ≤ 60 by omega) (by omega)), if_neg (show ¬ (0 : Int32) ≤ -9 by decide), h1]
      simp only [mt_b2E]
      by_cases hl : sp_sN (A 0 t) (A 1 t) (A 2 t) i (A 3 t) < A 2 t
      · rw [if_neg (nI_nle (by omega) (by omega))]
        have e : sp_ro A t = some (i + 1) := by
          unfold sp_ro
          rw [sp_find_some (by rw [sp_e60]; exact hi) (by simpa using hl) hno]
          rfl
        refine ⟨_, _, _, ⟨hx.trans h3, Or.inr ⟨?_, by rw [e]; exact fun h => by cases h⟩⟩, rfl⟩
        rw [e]; rfl
      · refine ⟨_, _, _, ⟨hx.trans h3, Or.inl ⟨rfl, rfl, h2, ?_⟩⟩, ?_⟩
        · intro j hj
          by_cases q : j = i
          · subst q; simpa using hl
          · exact hno j (by omega)
        · rw [show A 2 t - sp_sN (A 0 t) (A 1 t) (A 2 t) i (A 3 t) = 0 by omega, if_pos (show nI 0 ≤ 0 by decide), nI_1]
    · right
      simp only [mt_ltE]
      rw [if_pos (pos hne), ite_self]
      exact ex _ m hx
  · rintro x y m ⟨hx, ⟨rfl, rfl, hm, hno⟩ | ⟨rfl, hne⟩⟩ k
    · have e : sp_ro A t = none := by
        unfold sp_ro
        rw [sp_find_none (by rw [sp_e60]; exact hno)]
        rfl
      simp only [mt_ltE]
      rw [mi_60, if_pos (nI_lt (by decide) (by decide)), e]
      exact ex _ m hx
    · simp only [mt_ltE]
      rw [if_pos (pos hne), ite_self]
      exact ex _ m hx
theorem xr_runsOut (hv : rm M A) (hok : hs_ok A) (ht : t < A 6 0) : ∃ M', f_X12_runsOut (nI t) M = some (sp_ov (sp_ro A t), M') ∧ mq M M' := by
  obtain ⟨M', h1, h2⟩ := xr_firstLack hv hok ht
  refine ⟨M', ?_, h2⟩
  simp only [f_X12_runsOut, xm_isT hv hok.1 ht, mt_b1E, mt_10, if_false, h1, mt_b2E]
theorem xr_firstOut (hv : rm M A) (hok : hs_ok A) : ∃ M', f_X12_firstOut M = some (sp_ov (sp_fo A (A 6 0)).1, M') ∧ mq M M' := by
  have hn := hok.1
  unfold f_X12_firstOut
  refine mt_lz4 (P := fun r => ∃ M', r = some (sp_ov (sp_fo A (A 6 0)).1, M') ∧ mq M M') (fun i x y z m => x = sp_ov (sp_fo A i).1 ∧ y = nI (sp_fo A i).2 ∧ z = nI i ∧ mq M m) (A 6 0) (by omega) ?_ ?_ ⟨rfl, rfl, rfl, mq.rfl' M⟩
  · rintro i hi x y z m ⟨rfl, rfl, rfl, hm⟩ k
    left
    have hvm := hm.rm hv
    obtain ⟨M', h1, h2⟩ := xr_firstLack hvm hok hi
    have h8 := hvm.1.1
    rw [h8, if_neg (nI_ge hi (by omega)), h1]
    simp only [mt_b2E, mt_ltE, nI_1]
    cases hr : sp_ro A i with
    | none =>
      refine ⟨sp_ov (sp_fo A i).1, nI (sp_fo A i).2, nI (i + 1), M', ⟨?_, ?_, rfl, hm.trans h2⟩, ?_⟩
      · simp only [sp_fo, hr]
      · simp only [sp_fo, hr]
      · rw [if_pos (show sp_ov none < 0 by decide)]
    | some d =>
      have hd := sp_ro_lt hr
      have hf := sp_fo_le A i
      rw [if_neg (show ¬ sp_ov (some d) < 0 from nI_pos (by omega))]
      by_cases hl : d < (sp_fo A i).2
      · refine ⟨nI i, nI d, nI (i + 1), M', ⟨?_, ?_, rfl, hm.trans h2⟩, ?_⟩
        · simp only [sp_fo, hr, if_pos hl, sp_ov]
        · simp only [sp_fo, hr, if_pos hl]
        · rw [if_pos (show sp_ov (some d) < nI (sp_fo A i).2 from nI_lt hl (by omega))]
          rfl
      · refine ⟨sp_ov (sp_fo A i).1, nI (sp_fo A i).2, nI (i + 1), M', ⟨?_, ?_, rfl, hm.trans h2⟩, ?_⟩
        · simp only [sp_fo, hr, if_neg hl]
        · simp only [sp_fo, hr, if_neg hl]
        · rw [if_neg (show ¬ sp_ov (some d) < nI (sp_fo A i).2 from nI_nlt (by omega) (by omega))]
  · rintro x y z m ⟨rfl, rfl, rfl, hm⟩ k
    have h8 := (hm.rm hv).1.1
    rw [h8, if_pos (nI_le (Nat.le_refl _) (by omega))]
    exact ⟨m, rfl, hm⟩
/-- packs one by one -/
def hs_gets (A : hs_A) (t : Nat) : Nat → hs_A
  | 0 => A
  | k + 1 => hs_buy (hs_gets A t k) t 1
theorem hs_ok_gets {A : hs_A} (h : hs_ok A) (t k : Nat) : hs_ok (hs_gets A t k) := by
  induction k with
  | zero => exact h
  | succ k ih => exact hs_ok_buy ih t 1
theorem hs_gets_6 (A : hs_A) (t k : Nat) {j : Nat} (h : j ≠ 4) : hs_gets A t k 6 j = A 6 j := by
  induction k with
  | zero => rfl
  | succ k ih => simp only [hs_gets]; rw [hs_buy_n _ _ _ h, ih]
theorem hs_gets_r (A : hs_A) (t k : Nat) {j : Nat} (h3 : j ≠ 3) (h6 : j ≠ 6) : hs_gets A t k j = A j := by
  induction k with
  | zero => rfl
  | succ k ih => simp only [hs_gets]; rw [hs_buy_r _ _ _ h3 h6, ih]
theorem hs_gets_3 (A : hs_A) (t k : Nat) (h : A 3 t ≤ 99) : hs_gets A t k 3 t = sp_w A t k := by
  induction k with
  | zero => simp [hs_gets, sp_w]; omega
  | succ k ih =>
    simp only [hs_gets, hs_buy]
    rw [hs_up_r _ (by decide), hs_up_s, ih, hs_gets_r _ _ _ (by decide) (by decide)]
    simp only [sp_w, Nat.succ_mul]
    omega
theorem xr_suffices (hv : rm M A) (hok : hs_ok A) (ht : t < A 6 0) {k n : Nat} (hk : k ≤ 1000) (hn : n ≤ 1000) : ∃ M', f_X12_suffices (nI t) (nI k) (nI n) M = some (if sp_lN (A 0 t) (A 1 t) (A 2 t) n (sp_w A t k) = 0 then 1 else 0, M') ∧ mq M M' := by
  obtain ⟨M1, hT, hv1, hF⟩ := xr_mind hv
  obtain ⟨bk, bf, bu, bs⟩ := hok.2 t ht
  have ex : ∀ (x : Int32) (m : mt_M) (p : Prop) [Decidable p], p → mi M1 m → ∃ M', (mt_b1 (f_X12_forgets m) fun M16 => mt_ck p (some (x, M16))) = some (x, M') ∧ mq M M' := fun x m p _ hx h => by
    obtain ⟨M3, g1, g2⟩ := hF m h
    exact ⟨M3, by rw [g1]; simp only [mt_b1E]; rw [mt_ck_t hx], g2⟩
  obtain ⟨B, eB⟩ : ∃ B, B = hs_gets A t k := ⟨_, rfl⟩
  have okB : hs_ok B := by rw [eB]; exact hs_ok_gets hok t k
  have B0 : B 6 0 = A 6 0 := by rw [eB]; exact hs_gets_6 _ _ _ (by decide)
  have tB : t < B 6 0 := by rw [B0]; exact ht
  have Br : ∀ j, j ≠ 3 → j ≠ 6 → B j = A j := fun j h3 h6 => by rw [eB]; exact hs_gets_r _ _ _ h3 h6
  have B3 : B 3 t = sp_w A t k := by rw [eB]; exact hs_gets_3 A t k bs
  have eL : ∀ i, sp_lN (B 0 t) (B 1 t) (B 2 t) i (B 3 t) = sp_lN (A 0 t) (A 1 t) (A 2 t) i (sp_w A t k) := fun i => by
    rw [Br 0 (by decide) (by decide), Br 1 (by decide) (by decide), Br 2 (by decide) (by decide), B3]
  simp only [f_X12_suffices, hT, mt_b1E]
  refine mt_lz2 (P := fun r => ∃ M', r = some (if sp_lN (A 0 t) (A 1 t) (A 2 t) n (sp_w A t k) = 0 then 1 else 0, M') ∧ mq M M') (fun i x m => x = nI i ∧ rm m (hs_gets A t i) ∧ mi M1 m) k (by omega) ?_ ?_ ⟨rfl, hv1, mi.rfl' M1⟩
  · rintro i hi x m ⟨rfl, hm, hx⟩ kk
    left
    obtain ⟨M', h1, h2, h3⟩ := xr_gets hm (hs_ok_gets hok t i) (t := t) (by rw [hs_gets_6 _ _ _ (by decide)]; exact ht)
    refine ⟨_, _, ⟨rfl, h2, hx.trans h3⟩, ?_⟩
    rw [if_neg (nI_ge hi (by omega)), h1]
    simp only [mt_b1E, mt_ltE, nI_1]
  · rintro x m ⟨rfl, hm, hx⟩ kk
    rw [if_pos (nI_le (Nat.le_refl _) (by omega))]
    rw [← eB] at hm
    refine mt_lz3 (P := fun r => ∃ M', r = some (if sp_lN (A 0 t) (A 1 t) (A 2 t) n (sp_w A t k) = 0 then 1 else 0, M') ∧ mq M M') (fun i x y m => mi M1 m ∧ ((x = 1 ∧ y = nI i ∧ rm m (hs_one B t i) ∧ sp_lN (A 0 t) (A 1 t) (A 2 t) i (sp_w A t k) = 0) ∨ (x = 0 ∧ sp_lN (A 0 t) (A 1 t) (A 2 t) n (sp_w A t k) ≠ 0))) n (by omega) ?_ ?_ ⟨hx, Or.inl ⟨rfl, rfl, hm, rfl⟩⟩
    · rintro i hi x y m ⟨hx, ⟨rfl, rfl, hm, hno⟩ | ⟨rfl, hne⟩⟩ k2
      · left
        obtain ⟨M', h1, h2, h3⟩ := xr_uses hm (hs_ok_one okB tB i) (t := t) (by rw [hs_one_6 _ _ _ (by decide) (by decide)]; exact tB)
        rw [hs_one_3, hs_one_r _ _ _ (by decide) (by decide)] at h1
        simp only [mt_ltE]
        rw [if_neg (nI_ge hi (by omega))]
        simp only [mt_10, if_false]
        rw [h1]
        simp only [mt_b2E]
        have es : sp_lN (A 0 t) (A 1 t) (A 2 t) (i + 1) (sp_w A t k) = sp_lN (A 0 t) (A 1 t) (A 2 t) i (sp_w A t k) + (B 2 t - sp_sN (B 0 t) (B 1 t) (B 2 t) i (B 3 t)) := by
          rw [← eL, ← eL]; rfl
        have bB := (okB.2 t tB).2.2.1
        by_cases hl : B 2 t - sp_sN (B 0 t) (B 1 t) (B 2 t) i (B 3 t) = 0
        · rw [hl, if_pos (show nI 0 = 0 from rfl), nI_1]
          exact ⟨_, _, _, ⟨hx.trans h3, Or.inl ⟨rfl, rfl, h2, by omega⟩⟩, rfl⟩
        · rw [if_neg (nI_ne0 (by omega) (by omega))]
          refine ⟨_, _, _, ⟨hx.trans h3, Or.inr ⟨rfl, ?_⟩⟩, rfl⟩
          have := sp_lN_mono (A 0 t) (A 1 t) (A 2 t) (show i + 1 ≤ n by omega) (sp_w A t k)
          omega
      · right
        simp only [mt_ltE, if_true, ite_self, if_neg hne]
        exact ex 0 m _ (by simp) hx
    · rintro x y m ⟨hx, ⟨rfl, rfl, hm, hno⟩ | ⟨rfl, hne⟩⟩ k2
      · simp only [mt_ltE]
        rw [if_pos (nI_le (Nat.le_refl _) (by omega)), if_pos hno]
        exact ex 1 m _ (by simp) hx
      · simp only [mt_ltE, if_true, ite_self, if_neg hne]
        exact ex 0 m _ (by simp) hx
theorem xr_packs (hv : rm M A) (hok : hs_ok A) (ht : t < A 6 0) {n : Nat} (hn : n ≤ 1000) : ∃ M', f_X12_packsFor (nI t) (nI n) M = some (nI (sp_pks A t n), M') ∧ mq M M' := by
  unfold f_X12_packsFor
  refine mt_lz2 (P := fun r => ∃ M', r = some (nI (sp_pks A t n), M') ∧ mq M M') (fun i x m => x = nI i ∧ mq M m ∧ ∀ j, j < i → (sp_lN (A 0 t) (A 1 t) (A 2 t) n (sp_w A t j) == 0) = false) 21 (by decide) ?_ ?_ ⟨rfl, mq.rfl' M, fun j hj => absurd hj (by omega)⟩
  · rintro i hi x m ⟨rfl, hm, hno⟩ k
    obtain ⟨M', h1, h2⟩ := xr_suffices (hm.rm hv) hok ht (k := i) (n := n) (by omega) hn
    rw [mi_20, if_neg (nI_nlt (show i ≤ 20 by omega) (by omega)), h1]
    simp only [mt_b2E, mt_ltE, nI_1]
    by_cases hl : sp_lN (A 0 t) (A 1 t) (A 2 t) n (sp_w A t i) = 0
    · right
      simp only [if_pos hl, mt_10, if_false]
      refine ⟨M', ?_, hm.trans h2⟩
      have e : sp_pks A t n = i := by
        unfold sp_pks sp_pf
        rw [sp_find_some (by rw [sp_e21]; exact hi) (by simpa using hl) hno]
      rw [e]
    · left
      simp only [if_neg hl, if_true]
      refine ⟨_, _, ⟨rfl, hm.trans h2, ?_⟩, rfl⟩
      intro j hj
      by_cases q : j = i
      · subst q; simpa using hl
      · exact hno j (by omega)
  · rintro x m ⟨rfl, hm, hno⟩ k
    rw [mi_20, if_pos (nI_lt (by decide) (by decide))]
    refine ⟨m, ?_, hm⟩
    have e : sp_pks A t n = 99 := by
      unfold sp_pks sp_pf
      rw [sp_find_none (by rw [sp_e21]; exact hno)]
    rw [e]; rfl
end XR

/-! INTERVALS, TURNS, MONTH, SWAP, LOTS: the class -/
theorem mt_modS {d g : Nat} (hg : 0 < g) : (d % g + 1 = g ∧ (d + 1) % g = 0) ∨ (d % g + 1 < g ∧ (d + 1) % g = d % g + 1) := by
  have h := Nat.mod_lt d hg
  have e : (d + 1) % g = (d % g + 1) % g := by
    rw [Nat.add_mod]
    by_cases h1 : g = 1
    · subst h1; omega
    · rw [Nat.mod_eq_of_lt (show 1 < g by omega)]
  by_cases q : d % g + 1 = g
  · left; refine ⟨q, ?_⟩; rw [e, q, Nat.mod_self]
  · right; refine ⟨by omega, ?_⟩; rw [e, Nat.mod_eq_of_lt (by omega)]
section XN5
variable {M : mt_M} {A : hs_A} {t : Nat}
theorem xc_swap (hv : cv 137 M A) (h7 : A 6 0 ≤ 7) {i j : Nat} (hi : i < A 6 0) (hj : j < A 6 0) (hne : i ≠ j) : ∃ M', f_X0_changeUses 137 (nI i) (nI j) M = some M' ∧ cv 137 M' (hs_sw A i j) := by
  have hin : vp_in (nI i) 7 := vp_in_nI (by omega) (by omega)
  have hcl : (nI i).toNatClampNeg = i := nI_clamp (by omega)
  have hjn : vp_in (nI j) 7 := vp_in_nI (by omega) (by omega)
  have hcj : (nI j).toNatClampNeg = j := nI_clamp (by omega)
  have e1 := (hv.2 i hi).2.2.1
  have e2 := (hv.2 j hj).2.2.1
  refine ⟨_, ?_, cv_w3 (cv_w3 hv i (A 2 j)) j (A 2 i)⟩
  simp only [f_X0_changeUses, xc_hasT hv h7 hi, xc_hasT hv h7 hj, mt_b1E, mt_10, if_false, mt_ci_t hin, mt_ci_t hjn, hcl, hcj, mt_ltE, e1, e2]
theorem xn_bought (hv : cv 137 M A) (hok : hs_ok A) {k : Nat} (hk : k ≤ 1000) {R : Type} {P : Option R → Prop} {J : mt_M → Option R} (hJ : ∀ M', cv 137 M' (hs_bP A k (A 6 0)) → P (J M')) : P (mt_lp2 (fun k25 (x23 : Int32) (M24 : mt_M) => if (M24 137 8) ≤ x23 then J M24 else mt_b1 (f_X0_buy 137 x23 (nI k) M24) (fun (M29 : mt_M) => mt_lt (x23 + (1 : Int32)) (fun (x30 : Int32) => k25 x30 M29))) mt_FU (0 : Int32) M) := by
  have h7 := hok.1
  refine mt_lz2 (P := P) (fun i x m => x = nI i ∧ cv 137 m (hs_bP A k i)) (A 6 0) (by omega) ?_ ?_ ⟨rfl, hv⟩
  · rintro i hi x m ⟨rfl, hm⟩ kk
    left
    have e0 : hs_bP A k i 6 0 = A 6 0 := hs_bP_6 _ _ _ (by decide)
    obtain ⟨M', h1, h2⟩ := xc_buy hm (hs_ok_bP hok k i) (t := i) (by omega) hk
    have h8 := hm.1.1
    rw [e0] at h8
    refine ⟨_, _, ⟨rfl, h2⟩, ?_⟩
    rw [h8, if_neg (nI_ge hi (by omega)), h1]
    simp only [mt_b1E, mt_ltE, nI_1]
  · rintro x m ⟨rfl, hm⟩ kk
    have h8 := hm.1.1
    rw [hs_bP_6 _ _ _ (by decide)] at h8
    rw [h8, if_pos (nI_le (Nat.le_refl _) (by omega))]
    exact hJ m hm
theorem xn_lacksBy (hv : cv 13 M A) (hok : hs_ok A) {k g : Nat} (hk : k ≤ 1000) (hg : 0 < g) (hg2 : g ≤ 1000) : ∃ M', f_X8_nothingLacksBy (nI k) (nI g) M = some (if sp_en A k g = true then 1 else 0, M') ∧ xn M M' := by
  obtain ⟨M1, b1, bv, bx⟩ := xn_begin hv hok
  have okz := hs_ok_z hok
  have z5 := (hs_z_t A).2.1
  have key : ∃ M', f_X8_nothingLacksBy (nI k) (nI g) M = some (if sp_en A k g = true then 1 else 0, M') := by
    simp only [f_X8_nothingLacksBy, b1, mt_b1E]
    refine mt_lz3 (P := fun r => ∃ M', r = some (if sp_en A k g = true then 1 else 0, M')) (fun i x y m => x = nI (if i % g = 0 then 0 else g - i % g) ∧ y = nI i ∧ cv 137 m (hs_iv (hs_z A) k g i)) 30 (by decide) ?_ ?_ ⟨by rw [Nat.zero_mod, if_pos rfl]; rfl, rfl, bv⟩
    · rintro i hi x y m ⟨rfl, rfl, hm⟩ kk
      have okI := hs_ok_iv okz k g i
      have e10 := hm.1.2.2.1
      have hb := (hs_iv_5 okz k g i).2
      rw [z5] at hb
      have hi30 : ¬ (30 : Int32) ≤ nI i := by rw [mi_30]; exact nI_ge hi (by omega)
      simp only [mt_ltE, e10]
      rw [if_neg hi30]
      by_cases hl : hs_iv (hs_z A) k g i 6 5 = 0
      · left
        rw [hl, if_pos (show nI 0 = 0 from rfl)]
        have hnext : ∀ (w : Nat) (N : mt_M), cv 137 N (if i % g = 0 then hs_bP (hs_iv (hs_z A) k g i) k (A 6 0) else hs_iv (hs_z A) k g i) → w = (if i % g = 0 then g else g - i % g) → ∃ c1 c2 c3, (c1 = nI (if (i + 1) % g = 0 then 0 else g - (i + 1) % g) ∧ c2 = nI (i + 1) ∧ cv 137 c3 (hs_iv (hs_z A) k g (i + 1))) ∧ (mt_b2 (f_X0_liveDay 137 N) fun r19 M20 => kk (nI w + -1) (nI i + 1) M20) = kk c1 c2 c3 := by
          intro w N hN hw
          have okN : hs_ok (if i % g = 0 then hs_bP (hs_iv (hs_z A) k g i) k (A 6 0) else hs_iv (hs_z A) k g i) := by
            split
            · exact hs_ok_bP okI _ _
            · exact okI
          obtain ⟨N2, q1, q2⟩ := xc_ld hN okN
          refine ⟨_, _, N2, ⟨rfl, rfl, ?_⟩, ?_⟩
          · simp only [hs_iv]
            rw [hs_z_n _ (by decide) (by decide) (by decide)]
            exact q2
          · rw [q1, mt_b2E, nI_1]
            have hm := Nat.mod_lt i hg
            have ew : nI w + -1 = nI (if (i + 1) % g = 0 then 0 else g - (i + 1) % g) := by
              obtain ⟨v, hv⟩ : ∃ v, w = v + 1 := ⟨w - 1, by rw [hw]; split <;> omega⟩
              rw [hv, pk_m1]
              congr 1
              have h2 : v = (if i % g = 0 then g else g - i % g) - 1 := by omega
              rw [h2]
              rcases mt_modS (d := i) hg with ⟨a, b⟩ | ⟨a, b⟩
              · rw [b, if_pos rfl]
                by_cases z : i % g = 0
                · rw [if_pos z]; omega
                · rw [if_neg z]; omega
              · rw [b, if_neg (show ¬ i % g + 1 = 0 by omega)]
                by_cases z : i % g = 0
                · rw [if_pos z]; omega
                · rw [if_neg z]; omega
            rw [ew]
        by_cases hz : i % g = 0
        · rw [if_pos hz, if_pos (show nI 0 = 0 from rfl)]
          have e0 : hs_iv (hs_z A) k g i 6 0 = A 6 0 := by rw [hs_iv_0, hs_z_n _ (by decide) (by decide) (by decide)]
          refine xn_bought hm okI hk (P := fun o => ∃ c1 c2 c3, (c1 = nI (if (i + 1) % g = 0 then 0 else g - (i + 1) % g) ∧ c2 = nI (i + 1) ∧ cv 137 c3 (hs_iv (hs_z A) k g (i + 1))) ∧ o = kk c1 c2 c3) (fun N hN => ?_)
          rw [e0] at hN
          exact hnext g N (by rw [if_pos hz]; exact hN) (by rw [if_pos hz])
        · have hm := Nat.mod_lt i hg
          rw [if_neg hz, if_neg (nI_ne0 (by omega) (by omega))]
          exact hnext (g - i % g) m (by rw [if_neg hz]; assumption) (by rw [if_neg hz])
      · right
        have hne : ¬ nI (hs_iv (hs_z A) k g i 6 5) = 0 := nI_ne0 (by omega) (by omega)
        rw [if_neg hne, if_neg hne]
        have e : sp_en A k g = false := by
          rw [← sp_en_z]
          unfold sp_en
          rw [sp_e30, z5]
          have h2 := hs_iv_mono okz k g (show i ≤ 30 by omega)
          exact beq_false_of_ne (by omega)
        rw [e]
        exact ⟨m, rfl⟩
    · rintro x y m ⟨rfl, rfl, hm⟩ kk
      have e10 := hm.1.2.2.1
      have hb := (hs_iv_5 okz k g 30).2
      rw [z5] at hb
      simp only [mt_ltE, e10]
      rw [if_pos (show (30 : Int32) ≤ nI 30 by decide)]
      have e : sp_en A k g = (hs_iv (hs_z A) k g 30 6 5 == 0) := by
        rw [← sp_en_z]
        unfold sp_en
        rw [sp_e30, z5]
      rw [e]
      by_cases hl : hs_iv (hs_z A) k g 30 6 5 = 0
      · rw [hl, if_pos (show nI 0 = 0 from rfl), beq_self_eq_true, if_pos rfl]
        exact ⟨m, rfl⟩
      · rw [if_neg (nI_ne0 (by omega) (by omega)), beq_false_of_ne hl]
        exact ⟨m, rfl⟩
  obtain ⟨M', h1⟩ := key
  exact ⟨M', h1, fr_X8_nothingLacksBy _ _ M h1⟩
theorem xn_interval (hv : cv 13 M A) (hok : hs_ok A) {k : Nat} (hk : k ≤ 1000) : ∃ M', f_X8_longestInterval (nI k) M = some (sp_ov (sp_il A k sp_n30), M') ∧ xn M M' := by
  unfold f_X8_longestInterval
  refine mt_lz2 (P := fun r => ∃ M', r = some (sp_ov (sp_il A k sp_n30), M') ∧ xn M M') (fun i x m => x = nI (30 - i) ∧ xn M m ∧ sp_il A k sp_n30 = sp_il A k (30 - i)) 30 (by decide) ?_ ?_ ⟨rfl, xn.rfl' M, by rw [sp_e30]⟩
  · rintro i hi x m ⟨rfl, hm, he⟩ kk
    obtain ⟨j, hj⟩ : ∃ j, 30 - i = j + 1 := ⟨29 - i, by omega⟩
    rw [hj] at he ⊢
    obtain ⟨M', h1, h2⟩ := xn_lacksBy (hm.cv hv) hok (k := k) (g := j + 1) hk (by omega) (by omega)
    rw [if_neg (show ¬ nI (j + 1) < (1 : Int32) from nI_nlt (show 1 ≤ j + 1 by omega) (by omega)), h1]
    simp only [mt_b2E, mt_ltE]
    simp only [sp_il] at he
    by_cases hl : sp_en A k (j + 1) = true
    · right
      rw [if_pos hl] at he
      simp only [if_pos hl, mt_10, if_false]
      rw [he]
      exact ⟨M', rfl, hm.trans h2⟩
    · left
      rw [if_neg hl] at he
      simp only [if_neg hl, if_true, pk_m1]
      exact ⟨_, _, ⟨by rw [show 30 - (i + 1) = j by omega], hm.trans h2, by rw [he, show 30 - (i + 1) = j by omega]⟩, rfl⟩
  · rintro x m ⟨rfl, hm, he⟩ kk
    rw [if_pos (show nI (30 - 30) < (1 : Int32) by decide), he]
    exact ⟨m, rfl, hm⟩
theorem xn_short (hv : cv 137 M A) (hok : hs_ok A) : f_X8_isSomethingShort M = some (if sp_sr A (A 6 0) = true then 1 else 0) := by
  have h7 := hok.1
  unfold f_X8_isSomethingShort
  refine mt_lz2 (P := fun r => r = some (if sp_sr A (A 6 0) = true then 1 else 0)) (fun i x y => x = (if sp_sr A i = true then 1 else 0) ∧ y = nI i) (A 6 0) (by omega) ?_ ?_ ⟨rfl, rfl⟩
  · rintro i hi x y ⟨rfl, rfl⟩ k
    left
    refine ⟨_, _, ⟨rfl, rfl⟩, ?_⟩
    obtain ⟨-, r2, r3, -⟩ := xc_row hv hok hi
    obtain ⟨-, -, b2, b3⟩ := hok.2 i hi
    rw [hv.1.1, if_neg (nI_ge hi (by omega))]
    simp only [mt_ltE, mt_b1E, r2, r3, nI_1]
    have es : (sp_sr A (i + 1) = true) = (sp_sr A i = true ∨ A 3 i < A 2 i) := by simp [sp_sr]
    by_cases q : sp_sr A i = true
    · rw [if_pos q, if_neg (show ¬ (1 : Int32) = 0 by decide), if_pos (by rw [es]; exact Or.inl q)]
    · rw [if_neg q, if_pos rfl]
      by_cases z : A 3 i < A 2 i
      · rw [if_neg (nI_ge z (by omega)), if_pos (by rw [es]; exact Or.inr z)]
      · rw [if_pos (nI_le (by omega) (by omega)), if_neg (by rw [es]; exact fun h => h.elim q z)]
  · rintro x y ⟨rfl, rfl⟩ k
    rw [hv.1.1, if_pos (nI_le (Nat.le_refl _) (by omega)), mt_ck_t]
    split
    · exact Or.inr rfl
    · exact Or.inl rfl
theorem xn_below (hv : cv 137 M A) (hok : hs_ok A) {f : Nat} (hf : f ≤ 100) : ∃ M', f_X8_buyWhatIsBelow (nI f) M = some M' ∧ cv 137 M' (hs_bb f A (A 6 0)) := by
  have h7 := hok.1
  unfold f_X8_buyWhatIsBelow
  refine mt_lz2 (P := fun r => ∃ M', r = some M' ∧ cv 137 M' (hs_bb f A (A 6 0))) (fun i x m => x = nI i ∧ cv 137 m (hs_bb f A i)) (A 6 0) (by omega) ?_ ?_ ⟨rfl, hv⟩
  · rintro i hi x m ⟨rfl, hm⟩ k
    left
    have okB := hs_ok_bb hok f i
    have e0 : hs_bb f A i 6 0 = A 6 0 := hs_bb_6 _ _ _ (by decide)
    obtain ⟨-, r2, r3, -⟩ := xc_row hm okB (t := i) (by omega)
    obtain ⟨-, -, b2, b3⟩ := okB.2 i (by omega)
    have hmul : f * hs_bb f A i 2 i ≤ 100 * 9 := Nat.mul_le_mul hf b2
    have h8 := hm.1.1
    rw [e0] at h8
    rw [h8, if_neg (nI_ge hi (by omega))]
    simp only [mt_ltE, mt_b1E, r2, r3, nI_1, pk_mul]
    by_cases z : f * hs_bb f A i 2 i ≤ hs_bb f A i 3 i
    · rw [if_pos (nI_le z (by omega))]
      exact ⟨_, _, ⟨rfl, by simp only [hs_bb]; rw [if_pos z]; exact hm⟩, rfl⟩
    · rw [if_neg (nI_ge (by omega) (by omega))]
      obtain ⟨M', h1, h2⟩ := xc_buy hm okB (t := i) (by omega) (k := 1) (by decide)
      rw [mi_1, h1, mt_b1E]
      exact ⟨_, _, ⟨rfl, by simp only [hs_bb]; rw [if_neg z]; exact h2⟩, rfl⟩
  · rintro x m ⟨rfl, hm⟩ k
    have h8 := hm.1.1
    rw [hs_bb_6 _ _ _ (by decide)] at h8
    rw [h8, if_pos (nI_le (Nat.le_refl _) (by omega))]
    exact ⟨m, rfl, hm⟩
theorem xn_turns (hv : cv 13 M A) (hok : hs_ok A) (hd : M 10 4 = nI (A 6 2)) (hd2 : A 6 2 ≤ 2000) {n : Nat} (hn : n ≤ 1000) {w : Nat} (hw : w ≤ 1) : ∃ M', f_X8_costOfTurns (nI n) (nI w) M = some (nI (3 * sp_tc w (hs_z A) n + hs_tn w (hs_z A) n 6 4 + 2 * hs_tn w (hs_z A) n 6 5), M') ∧ xn M M' := by
  obtain ⟨M1, b1, bv, bx⟩ := xn_begin hv hok
  have okz := hs_ok_z hok
  have hd1 : M1 10 4 = nI (A 6 2) := by rw [bx 10 (by omega)]; exact hd
  have z2 : hs_z A 6 2 = A 6 2 := hs_z_n _ (by decide) (by decide) (by decide)
  have z0 : hs_z A 6 0 = A 6 0 := hs_z_n _ (by decide) (by decide) (by decide)
  have key : ∃ M', f_X8_costOfTurns (nI n) (nI w) M = some (nI (3 * sp_tc w (hs_z A) n + hs_tn w (hs_z A) n 6 4 + 2 * hs_tn w (hs_z A) n 6 5), M') := by
    simp only [f_X8_costOfTurns, b1, mt_b1E]
    refine mt_lz3 (P := fun r => ∃ M', r = some (nI (3 * sp_tc w (hs_z A) n + hs_tn w (hs_z A) n 6 4 + 2 * hs_tn w (hs_z A) n 6 5), M')) (fun i x y m => x = nI (3 * sp_tc w (hs_z A) i) ∧ y = nI i ∧ cv 137 m (hs_tn w (hs_z A) i) ∧ m 10 4 = nI (A 6 2)) n (by omega) ?_ ?_ ⟨rfl, rfl, bv, hd1⟩
    · rintro i hi x y m ⟨rfl, rfl, hm, hmd⟩ kk
      left
      obtain ⟨S, eS⟩ : ∃ S, S = hs_tn w (hs_z A) i := ⟨_, rfl⟩
      have okS : hs_ok S := by rw [eS]; exact hs_ok_tn okz w i
      have S0 : S 6 0 = A 6 0 := by rw [eS, hs_tn_6 _ _ _ (by decide) (by decide) (by decide) (by decide), z0]
      have S2 : S 6 2 = A 6 2 + i := by rw [eS, hs_tn_2, z2]
      rw [← eS] at hm
      have hgo : ∀ (J : Int32 → Option (Int32 × mt_M)), (if nI w = 0 then (if (nI (A 6 2) + nI i &&& (1 : Int32)) = 0 then J 1 else J 0) else mt_b1 (f_X8_isSomethingShort m) J) = J (if sp_go w S = true then 1 else 0) := by
        intro J
        unfold sp_go
        by_cases hw0 : w = 0
        · rw [if_pos hw0, if_pos (show nI w = 0 by rw [hw0]; rfl), nI_add, mi_1, nx_and, Nat.and_one_is_mod, S2]
          have h2 : (A 6 2 + i) % 2 = 0 ∨ (A 6 2 + i) % 2 = 1 := by omega
          rcases h2 with h | h
          · rw [h]; rfl
          · rw [h]; rfl
        · rw [if_neg hw0, if_neg (nI_ne0 (by omega) (by omega)), xn_short hm okS, mt_b1E]
      have hend : ∀ (c : Nat) (N : mt_M) (B : hs_A), cv 137 N B → hs_ok B → N 10 4 = nI (A 6 2) → hs_day B = hs_tn w (hs_z A) (i + 1) → c = sp_tc w (hs_z A) (i + 1) → ∃ c1 c2 c3, (c1 = nI (3 * sp_tc w (hs_z A) (i + 1)) ∧ c2 = nI (i + 1) ∧ cv 137 c3 (hs_tn w (hs_z A) (i + 1)) ∧ c3 10 4 = nI (A 6 2)) ∧ (mt_b2 (f_X0_liveDay 137 N) fun r17 M18 => kk (nI (3 * c)) (nI (i + 1)) M18) = kk c1 c2 c3 := by
        intro c N B hN okB hNd hB hc
        obtain ⟨N2, q1, q2⟩ := xc_ld hN okB
        rw [hB] at q2
        refine ⟨_, _, N2, ⟨rfl, rfl, q2, ?_⟩, ?_⟩
        · rw [fr_X0_liveDay _ _ q1 10 (by omega)]; exact hNd
        · rw [q1, mt_b2E, hc]
      rw [if_neg (nI_ge hi (by omega))]
      simp only [mt_ltE, hmd, nI_1, hgo]
      by_cases hg : sp_go w S = true
      · simp only [if_pos hg, mt_10, if_false]
        obtain ⟨N, q1, q2⟩ := xn_below hm okS (f := 2) (by decide)
        rw [mi_2, q1, mt_b1E, mi_3, nI_add, show 3 * sp_tc w (hs_z A) i + 3 = 3 * (sp_tc w (hs_z A) i + 1) by omega]
        refine hend _ N _ q2 (hs_ok_bb okS _ _) ?_ ?_ ?_
        · rw [fr_X8_buyWhatIsBelow _ _ q1 10 (by omega)]; exact hmd
        · simp only [hs_tn]; rw [← eS, if_pos hg, S0, z0]
        · simp only [sp_tc]; rw [← eS, if_pos hg]
      · simp only [if_neg hg, if_true]
        refine hend _ m S hm okS hmd ?_ ?_
        · simp only [hs_tn]; rw [← eS, if_neg hg]
        · simp only [sp_tc]; rw [← eS, if_neg hg]; rfl
    · rintro x y m ⟨rfl, rfl, hm, hmd⟩ kk
      rw [if_pos (nI_le (Nat.le_refl _) (by omega)), hm.1.2.1, hm.1.2.2.1, mi_2, pk_mul, nI_add, nI_add]
      exact ⟨m, rfl⟩
  obtain ⟨M', h1⟩ := key
  exact ⟨M', h1, fr_X8_costOfTurns _ _ M h1⟩
theorem xn_month (hv : cv 13 M A) (hok : hs_ok A) : ∃ M', f_X8_penceOfMonth M = some (nI (hs_mo (hs_z A) sp_n30 6 4), M') ∧ xn M M' := by
  obtain ⟨M1, b1, bv, bx⟩ := xn_begin hv hok
  have okz := hs_ok_z hok
  have key : ∃ M', f_X8_penceOfMonth M = some (nI (hs_mo (hs_z A) sp_n30 6 4), M') := by
    simp only [f_X8_penceOfMonth, b1, mt_b1E]
    refine mt_lz2 (P := fun r => ∃ M', r = some (nI (hs_mo (hs_z A) sp_n30 6 4), M')) (fun i x m => x = nI i ∧ cv 137 m (hs_mo (hs_z A) i)) 30 (by decide) ?_ ?_ ⟨rfl, bv⟩
    · rintro i hi x m ⟨rfl, hm⟩ kk
      left
      have okS := hs_ok_mo okz i
      obtain ⟨N, q1, q2⟩ := xn_below hm okS (f := 1) (by decide)
      rw [hs_mo_0] at q2
      obtain ⟨N2, q3, q4⟩ := xc_ld q2 (hs_ok_bb okS _ _)
      refine ⟨_, _, ⟨rfl, q4⟩, ?_⟩
      rw [mi_30, if_neg (nI_ge hi (by omega)), mi_1, q1, mt_b1E, q3, mt_b2E, mt_ltE, nI_add]
    · rintro x m ⟨rfl, hm⟩ kk
      rw [mi_30, if_pos (nI_le (Nat.le_refl _) (by omega)), hm.1.2.1, sp_e30]
      exact ⟨m, rfl⟩
  obtain ⟨M', h1⟩ := key
  exact ⟨M', h1, fr_X8_penceOfMonth M h1⟩
theorem xn_swap (hv : cv 13 M A) (hok : hs_ok A) : ∃ M', f_X8_bestSwap M = some (sp_ov (sp_wo A (A 6 0)).1, M') ∧ xn M M' := by
  have h7 := hok.1
  obtain ⟨M1, h1, x1⟩ := xn_lacked hv hok (n := 7) (by decide)
  have h1 : f_X8_lackedIn 7 M = some (nI (sp_l7 A), M1) := h1
  simp only [f_X8_bestSwap, h1, mt_b2E]
  refine mt_lz4 (P := fun r => ∃ M', r = some (sp_ov (sp_wo A (A 6 0)).1, M') ∧ xn M M') (fun i x y z m => x = sp_ov (sp_wo A i).1 ∧ y = nI (sp_wo A i).2 ∧ z = nI i ∧ xn M m) (A 6 0) (by omega) ?_ ?_ ⟨rfl, rfl, rfl, x1⟩
  · rintro i hi x y z m ⟨rfl, rfl, rfl, hm⟩ k
    left
    have hvm := hm.cv hv
    rw [hvm.1.1, if_neg (nI_ge hi (by omega))]
    simp only [mt_ltE, nI_1]
    refine mt_lz4 (P := fun o => ∃ c1 c2 c3 c4, (c1 = sp_ov (sp_wo A (i + 1)).1 ∧ c2 = nI (sp_wo A (i + 1)).2 ∧ c3 = nI (i + 1) ∧ xn M c4) ∧ o = k c1 c2 c3 c4) (fun j x y z m => x = sp_ov (sp_wi A i (sp_wo A i) j).1 ∧ y = nI (sp_wi A i (sp_wo A i) j).2 ∧ z = nI (i + 1 + j) ∧ xn M m) (A 6 0 - (i + 1)) (by omega) ?_ ?_ ⟨rfl, rfl, rfl, hm⟩
    · rintro j hj x y z m ⟨rfl, rfl, rfl, hm⟩ k2
      left
      have hvm := hm.cv hv
      obtain ⟨N1, c1, c2, c3⟩ := xn_begin hvm hok
      have z0 : hs_z A 6 0 = A 6 0 := hs_z_n _ (by decide) (by decide) (by decide)
      obtain ⟨N2, d1, d2⟩ := xc_swap c2 (hs_ok_z hok).1 (i := i) (j := i + 1 + j) (by omega) (by omega) (by omega)
      have okw := hs_ok_sw (hs_ok_z hok) (i := i) (j := i + 1 + j) (by omega) (by omega)
      obtain ⟨N3, e1, e2, e3⟩ := xn_days d2 okw (n := 7) (by decide)
      have x2 : xn N1 N2 := fun id hid => fr_X0_changeUses _ _ _ _ d1 id (by omega)
      have hN3 : xn M N3 := ((hm.trans c3).trans x2).trans e3
      have e4 : N3 137 10 = nI (sp_l7 (hs_sw A i (i + 1 + j))) := by
        have hz : ∀ a, a ≠ 6 → hs_sw (hs_z A) i (i + 1 + j) a = hs_sw A i (i + 1 + j) a := fun a ha => by
          by_cases q : a = 2
          · subst q; simp only [hs_sw]; rw [hs_z_r _ (by decide)]; funext x; simp only [hs_up, if_true]; rw [hs_z_r _ (by decide)]
          · rw [hs_sw_r _ _ _ q, hs_sw_r _ _ _ q, hs_z_r _ ha]
        rw [e2.1.2.2.1, hs_days_65, hs_sw_r _ _ _ (by decide), (hs_z_t A).2.1, z0, hz 0 (by decide), hz 1 (by decide), hz 2 (by decide), hz 3 (by decide), Nat.zero_add]
        unfold sp_l7
        rw [hs_sw_r A i _ (k := 6) (by decide)]
      have b1 := sp_l7_le (hs_ok_sw hok (i := i) (j := i + 1 + j) (by omega) (by omega))
      have b2 := sp_wi_le hok i (sp_wo_le hok i (by omega)) j (by omega)
      rw [hvm.1.1, if_neg (nI_ge (show i + 1 + j < A 6 0 by omega) (by omega)), c1, mt_b1E, d1, mt_b1E, show (7 : Int32) = nI 7 from rfl, e1, mt_b1E, e4]
      simp only [mt_ltE, nI_1, mi_10, pk_mul, nI_add]
      by_cases q : sp_l7 (hs_sw A i (i + 1 + j)) < (sp_wi A i (sp_wo A i) j).2
      · rw [if_neg (nI_ge q (by omega))]
        refine ⟨_, _, _, N3, ⟨?_, ?_, rfl, hN3⟩, rfl⟩
        · simp only [sp_wi]; rw [if_pos q]; rfl
        · simp only [sp_wi]; rw [if_pos q]
      · rw [if_pos (nI_le (by omega) (by omega))]
        refine ⟨_, _, _, N3, ⟨?_, ?_, rfl, hN3⟩, rfl⟩
        · simp only [sp_wi]; rw [if_neg q]
        · simp only [sp_wi]; rw [if_neg q]
    · rintro x y z m ⟨rfl, rfl, rfl, hm⟩ k2
      rw [(hm.cv hv).1.1, if_pos (nI_le (show A 6 0 ≤ i + 1 + (A 6 0 - (i + 1)) by omega) (by omega))]
      exact ⟨_, _, _, m, ⟨rfl, rfl, rfl, hm⟩, rfl⟩
  · rintro x y z m ⟨rfl, rfl, rfl, hm⟩ k
    rw [(hm.cv hv).1.1, if_pos (nI_le (Nat.le_refl _) (by omega))]
    exact ⟨m, rfl, hm⟩
theorem xn_lots (hv : cv 13 M A) (hok : hs_ok A) {n : Nat} (hn : n ≤ 1000) (s : Int32) {w : Nat} (hw : w ≤ 1) : ∃ M', f_X8_weeksByLot (nI n) s (nI w) M = some (if w = 0 then nI (hs_lw s A n).2.1 else nI (hs_lw s A n).2.2, M') ∧ xn M M' := by
  have h7 := hok.1
  have okz := hs_ok_z hok
  have z0 : hs_z A 6 0 = A 6 0 := hs_z_n _ (by decide) (by decide) (by decide)
  unfold f_X8_weeksByLot
  refine mt_lz5 (P := fun r => ∃ M', r = some (if w = 0 then nI (hs_lw s A n).2.1 else nI (hs_lw s A n).2.2, M') ∧ xn M M') (fun i x y z u m => x = (hs_lw s (hs_z A) i).1 ∧ y = nI (hs_lw s (hs_z A) i).2.1 ∧ z = nI (hs_lw s (hs_z A) i).2.2 ∧ u = nI i ∧ xn M m) n (by omega) ?_ ?_ ⟨rfl, rfl, rfl, rfl, xn.rfl' M⟩
  · rintro i hi x y z u m ⟨rfl, rfl, rfl, rfl, hm⟩ k
    left
    obtain ⟨N1, c1, c2, c3⟩ := xn_begin (hm.cv hv) hok
    rw [if_neg (nI_ge hi (by omega)), c1, mt_b1E]
    refine mt_lz3 (P := fun o => ∃ b1 b2 b3 b4 b5, (b1 = (hs_lw s (hs_z A) (i + 1)).1 ∧ b2 = nI (hs_lw s (hs_z A) (i + 1)).2.1 ∧ b3 = nI (hs_lw s (hs_z A) (i + 1)).2.2 ∧ b4 = nI (i + 1) ∧ xn M b5) ∧ o = k b1 b2 b3 b4 b5) (fun d x y m => x = (hs_ld (hs_lw s (hs_z A) i).1 (hs_z A) d).1 ∧ y = nI d ∧ cv 137 m (hs_ld (hs_lw s (hs_z A) i).1 (hs_z A) d).2 ∧ xn M m) 7 (by decide) ?_ ?_ ⟨rfl, rfl, c2, hm.trans c3⟩
    · rintro d hd x y m ⟨rfl, rfl, hm, hx⟩ k2
      left
      obtain ⟨S, eS⟩ : ∃ S, S = hs_ld (hs_lw s (hs_z A) i).1 (hs_z A) d := ⟨_, rfl⟩
      have okS : hs_ok S.2 := by rw [eS]; exact hs_ok_ld okz _ d
      have S0 : S.2 6 0 = A 6 0 := by rw [eS, hs_ld_0, z0]
      rw [← eS] at hm ⊢
      rw [mi_7, if_neg (nI_ge hd (by omega))]
      refine mt_lz3 (P := fun o => ∃ b1 b2 b3, (b1 = (hs_ld (hs_lw s (hs_z A) i).1 (hs_z A) (d + 1)).1 ∧ b2 = nI (d + 1) ∧ cv 137 b3 (hs_ld (hs_lw s (hs_z A) i).1 (hs_z A) (d + 1)).2 ∧ xn M b3) ∧ o = k2 b1 b2 b3) (fun j x y m => x = (hs_lt S.1 S.2 j).1 ∧ y = nI j ∧ cv 137 m (hs_lt S.1 S.2 j).2 ∧ xn M m) (A 6 0) (by omega) ?_ ?_ ⟨rfl, rfl, hm, hx⟩
      · rintro j hj x y m ⟨rfl, rfl, hm, hx⟩ k3
        left
        have e0 : (hs_lt S.1 S.2 j).2 6 0 = A 6 0 := by rw [hs_lt_6 _ _ _ (by decide), S0]
        have hd2 : f_X8_drawBelowTwo (sp_dn (hs_lt S.1 S.2 j).1) = some (nI (sp_dw (sp_dn (hs_lt S.1 S.2 j).1))) := by
          unfold f_X8_drawBelowTwo
          rw [sp_dw_e]
        have hdl := sp_dw_lt (sp_dn (hs_lt S.1 S.2 j).1)
        obtain ⟨N, q1, q2⟩ := xc_buy hm (hs_ok_lt okS S.1 j) (t := j) (by omega) (k := sp_dw (sp_dn (hs_lt S.1 S.2 j).1)) (by omega)
        have h8 := hm.1.1
        rw [e0] at h8
        refine ⟨_, _, N, ⟨rfl, rfl, q2, hx.trans (fun id hid => fr_X0_buy _ _ _ _ q1 id (by omega))⟩, ?_⟩
        rw [h8, if_neg (nI_ge hj (by omega))]
        simp only [mt_ltE]
        rw [show (hs_lt S.1 S.2 j).1 * 1103515245 + 12345 = sp_dn (hs_lt S.1 S.2 j).1 from rfl, hd2, mt_b1E, q1, mt_b1E, nI_1]
        rfl
      · rintro x y m ⟨rfl, rfl, hm, hx⟩ k3
        have h8 := hm.1.1
        rw [hs_lt_6 _ _ _ (by decide), S0] at h8
        obtain ⟨N, q1, q2⟩ := xc_ld hm (hs_ok_lt okS S.1 _)
        rw [h8, if_pos (nI_le (Nat.le_refl _) (by omega)), q1]
        simp only [mt_b2E, mt_ltE, nI_1]
        refine ⟨_, _, N, ⟨?_, rfl, ?_, hx.trans (fun id hid => fr_X0_liveDay _ _ q1 id (by omega))⟩, rfl⟩
        · simp only [hs_ld]; rw [← eS, z0]
        · simp only [hs_ld]; rw [← eS, z0]; exact q2
    · rintro x y m ⟨rfl, rfl, hm, hx⟩ k2
      rw [mi_7, if_pos (nI_le (Nat.le_refl _) (by omega)), hm.1.2.2.1, hm.1.2.1]
      simp only [mt_ltE, nI_1, nI_add]
      refine ⟨_, _, _, _, m, ⟨?_, ?_, ?_, rfl, hx⟩, rfl⟩
      · simp only [hs_lw]; rw [sp_e7]
      · simp only [hs_lw]; rw [sp_e7, (hs_z_t A).2.1, Nat.sub_zero]
      · simp only [hs_lw]; rw [sp_e7, (hs_z_t A).1, Nat.sub_zero]
  · rintro x y z u m ⟨rfl, rfl, rfl, rfl, hm⟩ k
    rw [if_pos (nI_le (Nat.le_refl _) (by omega)), hs_lw_z]
    by_cases h : w = 0
    · rw [if_pos (show nI w = 0 by rw [h]; rfl), if_pos h]
      exact ⟨m, rfl, hm⟩
    · rw [if_neg (nI_ne0 (by omega) (by omega)), if_neg h]
      exact ⟨m, rfl, hm⟩
end XN5

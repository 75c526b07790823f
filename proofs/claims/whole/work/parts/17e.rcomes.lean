/-! HOUSES TOLD IN LETTERS: the reference's statements come true -/
section XY
variable {M : mt_M} {A : hs_A} {L : Nat} {T : Nat → Nat}
theorem xm_comesDays (hr : rm M A) (hwf : hs_wf A) {n : Nat} (hn : n ≤ 9) : ∃ M', f_X12_comesDays (nI n) M = some (if A 6 2 + n ≤ 999 then 1 else 0, M') ∧ (A 6 2 + n ≤ 999 → rm M' (hs_days A n)) := by
  have hd := hwf.2.1.2.1
  unfold f_X12_comesDays
  rw [hr.1.2.2.1, nI_add, mi_999]
  by_cases q : A 6 2 + n ≤ 999
  · rw [if_pos (nI_le q (by omega)), if_pos q]
    refine mt_lz2 (P := fun (r : Option (Int32 × mt_M)) => ∃ M' : mt_M, r = some (1, M') ∧ (A 6 2 + n ≤ 999 → rm M' (hs_days A n))) (fun i (x : Int32) (m : mt_M) => x = nI i ∧ rm m (hs_days A i)) n (by omega) ?_ ?_ ⟨rfl, hr⟩
    · rintro i hi x m ⟨rfl, hm⟩ k
      left
      obtain ⟨m', g1, g2, g3⟩ := xr_goes hm (hs_ok_days hwf.1 i)
      rw [if_neg (nI_ge hi (by omega)), g1, mt_b2E, mt_ltE, nI_1]
      exact ⟨_, _, ⟨rfl, g2⟩, rfl⟩
    · rintro x m ⟨rfl, hm⟩ k
      rw [if_pos (nI_le (Nat.le_refl _) (by omega))]
      exact ⟨m, rfl, fun _ => hm⟩
  · rw [if_neg (nI_ge (by omega) (by omega)), if_neg q]
    exact ⟨M, rfl, fun z => absurd z q⟩
theorem xm_comesLine (hr : rm M A) (hwf : hs_wf A) {c l t : Nat} (hc : c = 107 ∨ c = 119 ∨ c = 120) (hl : l < 2 ^ 31) (ht : t < 2 ^ 31) : ∃ M', f_X12_comesLine (nI c) (nI l) (nI t) M = some (if l ≤ 1 ∧ t < A 6 0 ∧ A 6 1 < 999 then 1 else 0, M') ∧ (l ≤ 1 ∧ t < A 6 0 ∧ A 6 1 < 999 → rm M' (hs_mc A l t (nI c))) := by
  have hn := hwf.2.1.1
  unfold f_X12_comesLine
  rw [xm_isLine2 hr hwf.1.1 hl ht, mt_b1E, hr.1.2.1, mi_999]
  by_cases q : l ≤ 1 ∧ t < A 6 0
  · rw [if_neg (by simp [q])]
    by_cases z : A 6 1 < 999
    · rw [if_neg (fun w => by have := (nI_eq (by omega) (by omega)).mp w; omega), if_pos ⟨q.1, q.2, z⟩]
      simp only [mt_ltE]
      unfold hs_mc
      rcases hc with rfl | rfl | rfl
      · obtain ⟨M', b1, b2, b3⟩ := xm_buys hr hwf (l := l) (by omega) q.2 z
        rw [if_neg (show ¬ nI 107 = 119 by decide), if_pos (show nI 107 = 107 from rfl), b1, mt_b1E, if_neg (show ¬ nI 107 = 120 by decide), if_neg (show ¬ nI 107 = 119 by decide), if_pos (show nI 107 = 107 from rfl)]
        exact ⟨M', rfl, fun _ => b2⟩
      · obtain ⟨M', b1, b2, b3⟩ := xm_marks hr hwf (l := l) (by omega) q.2 true
        have b1 : f_X12_marks (nI l) (nI t) 1 M = some M' := b1
        rw [if_pos (show nI 119 = 119 from rfl), b1, mt_b1E, if_neg (show ¬ nI 119 = 107 by decide), if_neg (show ¬ nI 119 = 120 by decide), if_pos (show nI 119 = 119 from rfl)]
        exact ⟨M', rfl, fun _ => b2⟩
      · obtain ⟨M', b1, b2, b3⟩ := xm_marks hr hwf (l := l) (by omega) q.2 false
        have b1 : f_X12_marks (nI l) (nI t) 0 M = some M' := b1
        rw [if_neg (show ¬ nI 120 = 119 by decide), if_neg (show ¬ nI 120 = 107 by decide), if_pos (show nI 120 = 120 from rfl), b1, mt_b1E, if_neg (show ¬ nI 120 = 119 by decide), if_neg (show ¬ nI 120 = 107 by decide)]
        exact ⟨M', rfl, fun _ => b2⟩
    · rw [if_pos (by rw [show A 6 1 = 999 by omega]), if_neg (fun w => z w.2.2)]
      exact ⟨M, rfl, fun w => absurd w.2.2 z⟩
  · have : (decide (l ≤ 1) && decide (t < A 6 0)) = false := by
      rw [Bool.and_eq_false_iff]
      by_cases z : l ≤ 1
      · exact Or.inr (by simpa using fun w => q ⟨z, w⟩)
      · exact Or.inl (by simpa using z)
    rw [this, if_pos (by decide), if_neg (fun w => q ⟨w.1, w.2.1⟩)]
    exact ⟨M, rfl, fun w => absurd ⟨w.1, w.2.1⟩ q⟩
theorem xm_comes (hr : rm M A) (hwf : hs_wf A) {p k d : Nat} (hk : k ≤ 47) (hl : M 157 k = nI (T p)) (ht : tl L T p k M) (hn : tn (T p) = some d) : ∃ M', f_X12_comes (nI k) M = some (sp_is (ap A (T p) (dv L T (p + 1)) (dv L T (p + 2)) (dv L T (p + 3))), M') ∧ ∀ B, ap A (T p) (dv L T (p + 1)) (dv L T (p + 2)) (dv L T (p + 3)) = some B → rm M' B := by
  have b1 := dv_le L T (p + 1)
  have b2 := dv_le L T (p + 2)
  have b3 := dv_le L T (p + 3)
  have h7 := hwf.1.1
  have i0 : vp_in (nI (3 * k)) 144 := vp_in_nI (by omega) (by omega)
  have c0 : (nI (3 * k)).toNatClampNeg = 3 * k := nI_clamp (by omega)
  have i1 : vp_in (nI (3 * k + 1)) 144 := vp_in_nI (by omega) (by omega)
  have c1 : (nI (3 * k + 1)).toNatClampNeg = 3 * k + 1 := nI_clamp (by omega)
  have i2 : vp_in (nI (3 * k + 2)) 144 := vp_in_nI (by omega) (by omega)
  have c2 : (nI (3 * k + 2)).toNatClampNeg = 3 * k + 2 := nI_clamp (by omega)
  have ik : vp_in (nI k) 48 := vp_in_nI (by omega) (by omega)
  have ck : (nI k).toNatClampNeg = k := nI_clamp (by omega)
  have e2 : nI (3 * k) + (2 : Int32) = nI (3 * k + 2) := nI_add _ 2
  obtain ⟨t1, t2, t3, t4⟩ := ht
  have line : ∀ c, (c = 107 ∨ c = 119 ∨ c = 120) → T p = c → ∃ M', (if nI (T p) = (100 : Int32) then mt_b2 (f_X12_comesDays (M 159 (3 * k)) M) (fun (r9 : Int32) (M10 : mt_M) => mt_ck (r9 = 0 ∨ r9 = 1) (some (r9, M10))) else if nI (T p) = (106 : Int32) then mt_b2 (f_X12_joins M) (fun (r14 : Int32) (M15 : mt_M) => some ((1 : Int32), M15)) else if nI (T p) = (114 : Int32) then mt_lt (mt_wr M 147 11 (M 159 (3 * k))) (fun (M17 : mt_M) => if (4 : Int32) ≤ M 159 (3 * k) then some ((0 : Int32), M17) else some ((1 : Int32), M17)) else if nI (T p) = (115 : Int32) then mt_b1 (f_X12_isThing (M 159 (3 * k)) M) (fun (r21 : Int32) => if r21 = 0 then some ((0 : Int32), M) else mt_ci (M 159 (3 * k)) 7 (mt_lt (mt_wr M 152 (M 159 (3 * k)).toNatClampNeg (M 159 (3 * k + 1))) (fun (M23 : mt_M) => some ((1 : Int32), M23)))) else if nI (T p) = (116 : Int32) then if (5 : Int32) < M 159 (3 * k) then some ((0 : Int32), M) else if (M 147 8) = (7 : Int32) then some ((0 : Int32), M) else mt_ci (nI (3 * k + 2)) 144 (mt_b1 (f_X12_adds (M 159 (3 * k)) (M 159 (3 * k + 1)) (M 159 (nI (3 * k + 2)).toNatClampNeg) M) (fun (M30 : mt_M) => some ((1 : Int32), M30))) else mt_ci (nI k) 48 (mt_b2 (f_X12_comesLine (nI (T p)) (M 159 (3 * k)) (M 159 (3 * k + 1)) M) (fun (r33 : Int32) (M34 : mt_M) => mt_ck (r33 = 0 ∨ r33 = 1) (some (r33, M34))))) = some (sp_is (ap A (T p) (dv L T (p + 1)) (dv L T (p + 2)) (dv L T (p + 3))), M') ∧ ∀ B, ap A (T p) (dv L T (p + 1)) (dv L T (p + 2)) (dv L T (p + 3)) = some B → rm M' B := by
    intro c hc1 hc
    have ev := t1 (by rw [hc]; rcases hc1 with rfl | rfl | rfl <;> decide)
    have ev2 := t2 (by rw [hc]; rcases hc1 with rfl | rfl | rfl <;> decide)
    have n1 : ¬ nI c = 100 ∧ ¬ nI c = 106 ∧ ¬ nI c = 114 ∧ ¬ nI c = 115 ∧ ¬ nI c = 116 := by rcases hc1 with rfl | rfl | rfl <;> decide
    rw [hc, if_neg n1.1, if_neg n1.2.1, if_neg n1.2.2.1, if_neg n1.2.2.2.1, if_neg n1.2.2.2.2, ap_x A _ _ _ hc1, mt_ci_t ik, ev, ev2]
    obtain ⟨M', j1, j2⟩ := xm_comesLine hr hwf hc1 (l := dv L T (p + 1)) (t := dv L T (p + 2)) (by omega) (by omega)
    rw [j1, mt_b2E]
    by_cases q : dv L T (p + 1) ≤ 1 ∧ dv L T (p + 2) < A 6 0 ∧ A 6 1 < 999
    · rw [if_pos q, if_pos q, mt_ck_t (Or.inr rfl)]
      exact ⟨M', rfl, fun B hB => by have := Option.some.inj hB; subst this; exact j2 q⟩
    · rw [if_neg q, if_neg q, mt_ck_t (Or.inl rfl)]
      exact ⟨M', rfl, fun B hB => by cases hB⟩
  unfold f_X12_comes
  rw [mi_3, pk_mul, mt_ci_t i0, mt_ltE, c0, nI_1, mt_ci_t i1, mt_ltE, c1, mt_ci_t ik, mt_ltE, ck, hl, e2]
  rcases tn_cases hn with hc | hc | hc | hc | hc | hc | hc | hc
  · -- 106
    rw [hc, if_neg (show ¬ nI 106 = 100 by decide), if_pos (show nI 106 = 106 from rfl), ap_106]
    obtain ⟨M', j1, j2, j3⟩ := xm_joins hr hwf
    rw [j1, mt_b2E]
    exact ⟨M', rfl, fun B hB => by have := Option.some.inj hB; subst this; exact j2⟩
  · -- 100
    have ev := t1 (by rw [hc]; decide)
    obtain ⟨M', j1, j2⟩ := xm_comesDays hr hwf b1
    rw [hc, if_pos (show nI 100 = 100 from rfl), ap_100, ev, j1, mt_b2E]
    by_cases q : A 6 2 + dv L T (p + 1) ≤ 999
    · rw [if_pos q, if_pos q, mt_ck_t (Or.inr rfl)]
      exact ⟨M', rfl, fun B hB => by have := Option.some.inj hB; subst this; exact j2 q⟩
    · rw [if_neg q, if_neg q, mt_ck_t (Or.inl rfl)]
      exact ⟨M', rfl, fun B hB => by cases hB⟩
  · -- 114
    have ev := t1 (by rw [hc]; decide)
    rw [hc, if_neg (show ¬ nI 114 = 100 by decide), if_neg (show ¬ nI 114 = 106 by decide), if_pos (show nI 114 = 114 from rfl), ap_114, ev, mt_ltE, mi_4]
    by_cases q : dv L T (p + 1) ≤ 3
    · rw [if_neg (nI_ge (show dv L T (p + 1) < 4 by omega) (by omega)), if_pos q]
      exact ⟨_, rfl, fun B hB => by have := Option.some.inj hB; subst this; exact rm_w147 hr 11 3 _ (Or.inr (Or.inr ⟨rfl, rfl⟩))⟩
    · rw [if_pos (nI_le (by omega) (by omega)), if_neg q]
      exact ⟨_, rfl, fun B hB => by cases hB⟩
  · exact line 107 (Or.inl rfl) hc
  · exact line 119 (Or.inr (Or.inl rfl)) hc
  · exact line 120 (Or.inr (Or.inr rfl)) hc
  · -- 115
    have ev := t1 (by rw [hc]; decide)
    have ev2 := t3 hc
    rw [hc, if_neg (show ¬ nI 115 = 100 by decide), if_neg (show ¬ nI 115 = 106 by decide), if_neg (show ¬ nI 115 = 114 by decide), if_pos (show nI 115 = 115 from rfl), ap_115, ev, ev2, xm_has2 hr h7 (by omega), mt_b1E]
    by_cases q : dv L T (p + 1) < A 6 0
    · have iv : vp_in (nI (dv L T (p + 1))) 7 := vp_in_nI (by omega) (by omega)
      have cv : (nI (dv L T (p + 1))).toNatClampNeg = dv L T (p + 1) := nI_clamp (by omega)
      rw [if_pos q, if_neg (by decide), mt_ci_t iv, mt_ltE, cv, if_pos q]
      exact ⟨_, rfl, fun B hB => by have := Option.some.inj hB; subst this; exact rm_w152 hr _ _⟩
    · rw [if_neg q, if_pos rfl, if_neg q]
      exact ⟨M, rfl, fun B hB => by cases hB⟩
  · -- 116
    have ev := t1 (by rw [hc]; decide)
    have ev2 := t2 (by rw [hc]; exact Or.inr (Or.inr (Or.inr rfl)))
    have ev3 := t4 hc
    rw [hc, if_neg (show ¬ nI 116 = 100 by decide), if_neg (show ¬ nI 116 = 106 by decide), if_neg (show ¬ nI 116 = 114 by decide), if_neg (show ¬ nI 116 = 115 by decide), if_pos (show nI 116 = 116 from rfl), ap_116, ev, ev2, hr.1.1, mi_5, mi_7]
    by_cases q : dv L T (p + 1) ≤ 5
    · rw [if_neg (nI_nlt q (by omega))]
      by_cases z : A 6 0 < 7
      · obtain ⟨M', j1, j2, j3⟩ := xm_adds hr hwf z (dv L T (p + 1)) (dv L T (p + 2)) (dv L T (p + 3))
        rw [if_neg (fun w => by have := (nI_eq (by omega) (by omega)).mp w; omega), mt_ci_t i2, c2, ev3, j1, mt_b1E, if_pos ⟨q, z⟩]
        exact ⟨M', rfl, fun B hB => by have := Option.some.inj hB; subst this; exact j2⟩
      · rw [if_pos (by rw [show A 6 0 = 7 by omega]), if_neg (fun w => z w.2)]
        exact ⟨M, rfl, fun B hB => by cases hB⟩
    · rw [if_pos (nI_lt (by omega) (by omega)), if_neg (fun w => q w.1)]
      exact ⟨M, rfl, fun B hB => by cases hB⟩
end XY

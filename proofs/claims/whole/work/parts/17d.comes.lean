/-! HOUSES TOLD IN LETTERS: the statements come true -/
def ap (A : hs_A) (c d1 d2 d3 : Nat) : Option hs_A :=
  if c = 116 then (if d1 ≤ 5 ∧ A 6 0 < 7 then some (hs_ad A d1 d2 d3) else none)
  else if c = 106 then some (hs_jn A)
  else if c = 114 then (if d1 ≤ 3 then some (hs_up A 6 3 d1) else none)
  else if c = 100 then (if A 6 2 + d1 ≤ 999 then some (hs_days A d1) else none)
  else if c = 115 then (if d1 < A 6 0 then some (hs_up A 3 d1 (10 * d2 + d3)) else none)
  else (if d1 ≤ 1 ∧ d2 < A 6 0 ∧ A 6 1 < 999 then some (hs_mc A d1 d2 (nI c)) else none)
theorem hs_wf_rule {A : hs_A} (h : hs_wf A) {v : Nat} (hv : v ≤ 3) : hs_wf (hs_up A 6 3 v) := by
  obtain ⟨hok, ⟨a1, a2, a3⟩, ⟨b1, b2⟩, c, d4, d5, d6⟩ := h
  have e : ∀ k, k ≠ 3 → hs_up A 6 3 v 6 k = A 6 k := fun k hk => hs_up_n A hk
  have e0 := e 0 (by decide)
  refine ⟨hs_ok_up6 hok (by decide), ⟨by rw [e 1 (by decide)]; exact a1, by rw [e 2 (by decide)]; exact a2, by rw [hs_up_s]; exact hv⟩, ⟨by rw [e 7 (by decide), e0]; exact b1, by rw [e 8 (by decide), e0]; exact b2⟩, fun t ht => ?_, by rw [e 4 (by decide), e 1 (by decide)]; exact d4, by rw [e 5 (by decide), e 2 (by decide)]; exact d5, by rw [e 6 (by decide), e 2 (by decide)]; exact d6⟩
  rw [hs_up_r _ (by decide), hs_up_r _ (by decide), e0]
  exact c t ht
theorem hs_wf_stock {A : hs_A} (h : hs_wf A) (t : Nat) {v : Nat} (hv : v ≤ 99) : hs_wf (hs_up A 3 t v) := by
  obtain ⟨hok, a, b, c, d⟩ := h
  exact ⟨hs_ok_up3 hok t hv, a, b, c, d⟩
theorem ap_wf {A B : hs_A} {c d1 d2 d3 : Nat} (h : hs_wf A) (h1 : d1 ≤ 9) (h2 : d2 ≤ 9) (h3 : d3 ≤ 9) (e : ap A c d1 d2 d3 = some B) : hs_wf B := by
  unfold ap at e
  split at e
  · split at e
    · rename_i q
      have := Option.some.inj e
      subst this
      exact hs_wf_ad h q.2 q.1 h2 h3
    · cases e
  · split at e
    · have := Option.some.inj e
      subst this
      exact hs_wf_jn h
    · split at e
      · split at e
        · rename_i q
          have := Option.some.inj e
          subst this
          exact hs_wf_rule h q
        · cases e
      · split at e
        · split at e
          · rename_i q
            have := Option.some.inj e
            subst this
            exact hs_wf_days h _ q
          · cases e
        · split at e
          · split at e
            · have := Option.some.inj e
              subst this
              exact hs_wf_stock h d1 (by omega)
            · cases e
          · split at e
            · rename_i q
              have := Option.some.inj e
              subst this
              exact hs_wf_mc h (by omega) q.2.1 q.2.2 _
            · cases e
theorem ap_116 (A : hs_A) (a b d : Nat) : ap A 116 a b d = if a ≤ 5 ∧ A 6 0 < 7 then some (hs_ad A a b d) else none := rfl
theorem ap_106 (A : hs_A) (a b d : Nat) : ap A 106 a b d = some (hs_jn A) := rfl
theorem ap_114 (A : hs_A) (a b d : Nat) : ap A 114 a b d = if a ≤ 3 then some (hs_up A 6 3 a) else none := rfl
theorem ap_100 (A : hs_A) (a b d : Nat) : ap A 100 a b d = if A 6 2 + a ≤ 999 then some (hs_days A a) else none := rfl
theorem ap_115 (A : hs_A) (a b d : Nat) : ap A 115 a b d = if a < A 6 0 then some (hs_up A 3 a (10 * b + d)) else none := rfl
theorem ap_x (A : hs_A) {c : Nat} (a b d : Nat) (hc : c = 107 ∨ c = 119 ∨ c = 120) : ap A c a b d = if a ≤ 1 ∧ b < A 6 0 ∧ A 6 1 < 999 then some (hs_mc A a b (nI c)) else none := by
  rcases hc with rfl | rfl | rfl <;> rfl
/-- a statement's answer: has it come -/
def sp_is (o : Option hs_A) : Int32 := match o with
  | some _ => 1
  | none => 0
section XV
variable {M : mt_M} {A : hs_A} {L : Nat} {T : Nat → Nat}
theorem hv_rule {h : Nat} (hh : hv h M A) (v : Nat) : hv h (mt_wr M h 5 (nI v)) (hs_up A 6 3 v) := by
  obtain ⟨⟨g1, g2, g3, g4, g5⟩, hc, hcv⟩ := hh
  refine ⟨⟨?_, ?_, ?_, ?_, ?_⟩, fun t ht => ?_, ?_⟩
  · rw [mt_wr_n (by decide), hs_up_n _ (by decide)]; exact g1
  · rw [mt_wr_n (by decide), hs_up_n _ (by decide)]; exact g2
  · rw [mt_wr_s, hs_up_s]
  · rw [mt_wr_ne (by omega), hs_up_n _ (by decide)]; exact g4
  · rw [mt_wr_ne (by omega), hs_up_n _ (by decide)]; exact g5
  · rw [mt_wr_ne (by omega), hs_up_r _ (by decide), hs_up_r _ (by decide)]; exact hc t ht
  · exact cv_up (cv_frame hcv (fun id a b => mt_wr_ne (by omega))) (by decide) (by decide) (by decide) (by decide)
def sp_rk (A : hs_A) (l t : Nat) : Int32 := if l ≤ 1 ∧ t < A 6 0 then (if A 6 1 < 999 then 0 else -6) else -1
theorem hc_ref {h : Nat} (hh : hv h M A) (hwf : hs_wf A) {l t : Nat} (hl : l < 2 ^ 31) (ht : t < 2 ^ 31) : f_X4_refusalToMark h (nI l) (nI t) M = some (sp_rk A l t) := by
  have hn := hwf.2.1.1
  simp only [f_X4_refusalToMark, xf_isLine hh.2.2 hwf.1.1 hl ht, mt_b1E, hh.1.1]
  unfold sp_rk
  by_cases q : l ≤ 1 ∧ t < A 6 0
  · rw [if_neg (by simp [q]), if_pos q, mi_999]
    by_cases z : A 6 1 < 999
    · rw [if_pos (nI_lt z (by omega)), if_pos z]
    · rw [if_neg (nI_nlt (by omega) (by omega)), if_neg z]
  · have : (decide (l ≤ 1) && decide (t < A 6 0)) = false := by
      rw [Bool.and_eq_false_iff]
      by_cases z : l ≤ 1
      · exact Or.inr (by simpa using fun w => q ⟨z, w⟩)
      · exact Or.inl (by simpa using z)
    rw [this, if_neg q]
    rfl
theorem xt_dv (h : M 145 1 = nI L) (hL : L ≤ 96) (hT : tm M 146 L T) (hb : ∀ k, k < L → T k ≤ 255) {k : Nat} (hk : k < 2 ^ 31) (hd : ∃ v, td L T k = some v) : f_X7_digitAt (nI k) M = some (nI (dv L T k)) := by
  rw [xt_dig h hL hT hb hk]
  obtain ⟨v, hv⟩ := hd
  unfold dv
  rw [hv]
  rfl
theorem xt_comes (h : M 145 1 = nI L) (hL : L ≤ 96) (hT : tm M 146 L T) (hb : ∀ k, k < L → T k ≤ 255) (hh : hv 21 M A) (hwf : hs_wf A) {p : Nat} (hp : p ≤ 200) (hg : ts L T p = none) : ∃ M', f_X7_comesTrue 21 (nI p) M = some (sp_is (ap A (T p) (dv L T (p + 1)) (dv L T (p + 2)) (dv L T (p + 3))), M') ∧ ∀ B, ap A (T p) (dv L T (p + 1)) (dv L T (p + 2)) (dv L T (p + 3)) = some B → hv 21 M' B := by
  obtain ⟨d, d1, d2, d3, d4⟩ := ts_none hg
  obtain ⟨t1, t2, t3⟩ := tp_le d1
  have b1 := dv_le L T (p + 1)
  have b2 := dv_le L T (p + 2)
  have b3 := dv_le L T (p + 3)
  have h7 := hwf.1.1
  have et : tx L T p = nI (T p) := by unfold tx; rw [if_pos t2]
  have el := xt_at h hL hT (show p < 2 ^ 31 by omega)
  rw [et] at el
  have ed1 := xt_dig h hL hT hb (show p + 1 < 2 ^ 31 by omega)
  have e2 : nI p + (2 : Int32) = nI (p + 2) := nI_add p 2
  have e3 : nI p + (3 : Int32) = nI (p + 3) := nI_add p 3
  have dd : ∀ i, i < d → sp_om (td L T (p + 1 + i)) = nI (dv L T (p + 1 + i)) := fun i hi => by
    obtain ⟨v, hv⟩ := d2 i hi
    unfold dv
    rw [hv]
    rfl
  have mark : ∀ c, (c = 107 ∨ c = 119 ∨ c = 120) → T p = c → ∃ M', (if nI (T p) = (100 : Int32) then mt_b2 (f_X4_liveDays 21 (sp_om (td L T (p + 1))) M) (fun (r7 : Int32) (M8 : mt_M) => if (999 : Int32) < (M8 21 4) then some ((0 : Int32), M8) else some ((1 : Int32), M8)) else if nI (T p) = (106 : Int32) then mt_b2 (f_X4_joinLists 21 M) (fun (r12 : Int32) (M13 : mt_M) => some ((1 : Int32), M13)) else if nI (T p) = (114 : Int32) then mt_lt (mt_wr M 21 5 (sp_om (td L T (p + 1)))) (fun (M15 : mt_M) => mt_b1 (f_X11_isOneOf (sp_om (td L T (p + 1))) (3 : Int32)) (fun (r17 : Int32) => mt_ck (r17 = 0 ∨ r17 = 1) (some (r17, M15)))) else if nI (T p) = (115 : Int32) then mt_b1 (f_X7_digitAt (nI p + (2 : Int32)) M) (fun (r21 : Int32) => mt_b1 (f_X7_digitAt (nI p + (3 : Int32)) M) (fun (r23 : Int32) => mt_b1 (f_X0_putStock (21 + 3) (sp_om (td L T (p + 1))) (((10 : Int32) * r21) + r23) M) (fun (M25 : mt_M) => mt_b1 (f_X0_has (21 + 3) (sp_om (td L T (p + 1))) M25) (fun (r27 : Int32) => mt_ck (r27 = 0 ∨ r27 = 1) (some (r27, M25)))))) else if nI (T p) = (116 : Int32) then mt_b1 (f_X7_digitAt (nI p + (2 : Int32)) M) (fun (r31 : Int32) => mt_b1 (f_X7_digitAt (nI p + (3 : Int32)) M) (fun (r33 : Int32) => mt_b2 (f_X0_add (21 + 3) (sp_om (td L T (p + 1))) r31 r33 M) (fun (r35 : Int32) (M36 : mt_M) => if r35 < 0 then some ((0 : Int32), M36) else some ((1 : Int32), M36)))) else mt_b1 (f_X7_digitAt (nI p + (2 : Int32)) M) (fun (r39 : Int32) => mt_b1 (some (nI (T p))) (fun (r41 : Int32) => mt_b2 (f_X4_markLine 21 (sp_om (td L T (p + 1))) r39 r41 M) (fun (r43 : Int32) (M44 : mt_M) => if r43 = 0 then some ((1 : Int32), M44) else some ((0 : Int32), M44))))) = some (sp_is (ap A (T p) (dv L T (p + 1)) (dv L T (p + 2)) (dv L T (p + 3))), M') ∧ ∀ B, ap A (T p) (dv L T (p + 1)) (dv L T (p + 2)) (dv L T (p + 3)) = some B → hv 21 M' B := by
    intro c hc1 hc
    have e0 : tn (T p) = some 2 := by rw [hc]; rcases hc1 with rfl | rfl | rfl <;> rfl
    rw [e0] at t3
    obtain rfl := Option.some.inj t3
    have ev : sp_om (td L T (p + 1)) = nI (dv L T (p + 1)) := dd 0 (by decide)
    have ev2 : f_X7_digitAt (nI (p + 2)) M = some (nI (dv L T (p + 2))) := xt_dv h hL hT hb (by omega) (d2 1 (by decide))
    have n1 : ¬ nI c = 100 ∧ ¬ nI c = 106 ∧ ¬ nI c = 114 ∧ ¬ nI c = 115 ∧ ¬ nI c = 116 := by rcases hc1 with rfl | rfl | rfl <;> decide
    rw [hc]
    rw [if_neg n1.1, if_neg n1.2.1, if_neg n1.2.2.1, if_neg n1.2.2.2.1, if_neg n1.2.2.2.2, ap_x A _ _ _ hc1, e2, ev2, mt_b1E, mt_b1E, ev]
    by_cases q : dv L T (p + 1) ≤ 1 ∧ dv L T (p + 2) < A 6 0 ∧ A 6 1 < 999
    · obtain ⟨M', j1, j2⟩ := hc_mark hh hwf (l := dv L T (p + 1)) (by omega) q.2.1 q.2.2 (nI c)
      rw [j1, mt_b2E, if_pos rfl, if_pos q]
      exact ⟨M', rfl, fun B hB => by have := Option.some.inj hB; subst this; exact j2⟩
    · have er := hc_ref hh hwf (l := dv L T (p + 1)) (t := dv L T (p + 2)) (by omega) (by omega)
      have hne : ¬ sp_rk A (dv L T (p + 1)) (dv L T (p + 2)) = 0 := by
        unfold sp_rk
        by_cases z : dv L T (p + 1) ≤ 1 ∧ dv L T (p + 2) < A 6 0
        · rw [if_pos z, if_neg (fun w => q ⟨z.1, z.2, w⟩)]; decide
        · rw [if_neg z]; decide
      have em : f_X4_markLine 21 (nI (dv L T (p + 1))) (nI (dv L T (p + 2))) (nI c) M = some (sp_rk A (dv L T (p + 1)) (dv L T (p + 2)), M) := by
        unfold f_X4_markLine
        rw [er, mt_b1E, if_neg hne]
      rw [em, mt_b2E, if_neg hne, if_neg q]
      exact ⟨M, rfl, fun B hB => by cases hB⟩
  unfold f_X7_comesTrue
  rw [nI_1, ed1, mt_b1E, el, mt_b1E]
  rcases tn_cases t3 with hc | hc | hc | hc | hc | hc | hc | hc
  · -- 106
    rw [hc, if_neg (show ¬ nI 106 = 100 by decide), if_pos (show nI 106 = 106 from rfl), ap_106]
    obtain ⟨M', j1, j2⟩ := hc_join hh hwf
    rw [j1, mt_b2E]
    exact ⟨M', rfl, fun B hB => by have := Option.some.inj hB; subst this; exact j2⟩
  · -- 100
    have e0 : tn (T p) = some 1 := by rw [hc]; rfl
    rw [e0] at t3
    obtain rfl := Option.some.inj t3
    have ev : sp_om (td L T (p + 1)) = nI (dv L T (p + 1)) := dd 0 (by decide)
    obtain ⟨M', j1, j2⟩ := hc_days hh hwf b1
    have e4 : M' 21 4 = nI (A 6 2 + dv L T (p + 1)) := by rw [j2.1.2.1, hs_days_d]
    have hd := hwf.2.1.2.1
    rw [hc, if_pos (show nI 100 = 100 from rfl), ap_100, ev, j1, mt_b2E, e4, mi_999]
    by_cases q : A 6 2 + dv L T (p + 1) ≤ 999
    · rw [if_neg (nI_nlt q (by omega)), if_pos q]
      exact ⟨M', rfl, fun B hB => by have := Option.some.inj hB; subst this; exact j2⟩
    · rw [if_pos (nI_lt (by omega) (by omega)), if_neg q]
      exact ⟨M', rfl, fun B hB => by cases hB⟩
  · -- 114
    have e0 : tn (T p) = some 1 := by rw [hc]; rfl
    rw [e0] at t3
    obtain rfl := Option.some.inj t3
    have ev : sp_om (td L T (p + 1)) = nI (dv L T (p + 1)) := dd 0 (by decide)
    rw [hc, if_neg (show ¬ nI 114 = 100 by decide), if_neg (show ¬ nI 114 = 106 by decide), if_pos (show nI 114 = 114 from rfl), ap_114, ev, mt_ltE, xo_oneOf, mt_b1E]
    by_cases q : dv L T (p + 1) ≤ 3
    · rw [if_neg (show ¬ (nI (dv L T (p + 1)) < 0 ∨ 3 < nI (dv L T (p + 1))) from fun z => z.elim (nI_pos (by omega)) (by rw [mi_3]; exact nI_nlt q (by omega))), mt_ck_t (Or.inr rfl), if_pos q]
      exact ⟨_, rfl, fun B hB => by have := Option.some.inj hB; subst this; exact hv_rule hh _⟩
    · rw [if_pos (show nI (dv L T (p + 1)) < 0 ∨ 3 < nI (dv L T (p + 1)) from Or.inr (by rw [mi_3]; exact nI_lt (by omega) (by omega))), mt_ck_t (Or.inl rfl), if_neg q]
      exact ⟨_, rfl, fun B hB => by cases hB⟩
  · exact mark 107 (Or.inl rfl) hc
  · exact mark 119 (Or.inr (Or.inl rfl)) hc
  · exact mark 120 (Or.inr (Or.inr rfl)) hc
  · -- 115
    have e0 : tn (T p) = some 3 := by rw [hc]; rfl
    rw [e0] at t3
    obtain rfl := Option.some.inj t3
    have ev : sp_om (td L T (p + 1)) = nI (dv L T (p + 1)) := dd 0 (by decide)
    have ev2 : f_X7_digitAt (nI (p + 2)) M = some (nI (dv L T (p + 2))) := xt_dv h hL hT hb (by omega) (d2 1 (by decide))
    have ev3 : f_X7_digitAt (nI (p + 3)) M = some (nI (dv L T (p + 3))) := xt_dv h hL hT hb (by omega) (d2 2 (by decide))
    rw [hc, if_neg (show ¬ nI 115 = 100 by decide), if_neg (show ¬ nI 115 = 106 by decide), if_neg (show ¬ nI 115 = 114 by decide), if_pos (show nI 115 = 115 from rfl), ap_115, ev, e2, ev2, mt_b1E, e3, ev3, mt_b1E, mi_10, pk_mul, nI_add]
    by_cases q : dv L T (p + 1) < A 6 0
    · obtain ⟨M', j1, j2, j3⟩ := hc_put hh hwf q (v := 10 * dv L T (p + 2) + dv L T (p + 3)) (by omega)
      have e9 : f_X0_has (21 + 3) (nI (dv L T (p + 1))) M' = some 1 := xc_hasT j2.2.2 h7 q
      rw [j1, mt_b1E, e9, mt_b1E, mt_ck_t (Or.inr rfl), if_pos q]
      exact ⟨M', rfl, fun B hB => by have := Option.some.inj hB; subst this; exact j2⟩
    · have e9 : f_X0_has (21 + 3) (nI (dv L T (p + 1))) M = some 0 := xc_hasF hh.2.2 (Or.inr (nI_le (by omega) (by omega)))
      have e8 : f_X0_putStock (21 + 3) (nI (dv L T (p + 1))) (nI (10 * dv L T (p + 2) + dv L T (p + 3))) M = some M := by
        unfold f_X0_putStock
        rw [e9, mt_b1E, if_pos rfl]
      rw [e8, mt_b1E, e9, mt_b1E, mt_ck_t (Or.inl rfl), if_neg q]
      exact ⟨M, rfl, fun B hB => by cases hB⟩
  · -- 116
    have e0 : tn (T p) = some 3 := by rw [hc]; rfl
    rw [e0] at t3
    obtain rfl := Option.some.inj t3
    have ev : sp_om (td L T (p + 1)) = nI (dv L T (p + 1)) := dd 0 (by decide)
    have ev2 : f_X7_digitAt (nI (p + 2)) M = some (nI (dv L T (p + 2))) := xt_dv h hL hT hb (by omega) (d2 1 (by decide))
    have ev3 : f_X7_digitAt (nI (p + 3)) M = some (nI (dv L T (p + 3))) := xt_dv h hL hT hb (by omega) (d2 2 (by decide))
    rw [hc, if_neg (show ¬ nI 116 = 100 by decide), if_neg (show ¬ nI 116 = 106 by decide), if_neg (show ¬ nI 116 = 114 by decide), if_neg (show ¬ nI 116 = 115 by decide), if_pos (show nI 116 = 116 from rfl), ap_116, ev, e2, ev2, mt_b1E, e3, ev3, mt_b1E]
    by_cases q : dv L T (p + 1) ≤ 5 ∧ A 6 0 < 7
    · obtain ⟨M', j1, j2⟩ := hc_add hh hwf.1 q.2 q.1 b2 b3
      rw [j1, mt_b2E, if_neg (nI_pos (by omega)), if_pos q]
      exact ⟨M', rfl, fun B hB => by have := Option.some.inj hB; subst this; exact j2⟩
    · have hra : sp_ra (nI (dv L T (p + 1))) (nI (dv L T (p + 2))) (nI (dv L T (p + 3))) (A 6 0) = -2 ∨ sp_ra (nI (dv L T (p + 1))) (nI (dv L T (p + 2))) (nI (dv L T (p + 3))) (A 6 0) = -6 := by
        unfold sp_ra
        by_cases z : dv L T (p + 1) ≤ 5
        · right
          have z7 : A 6 0 = 7 := by
            have : ¬ A 6 0 < 7 := fun w => q ⟨z, w⟩
            omega
          rw [if_neg, if_neg, if_pos (Or.inr (Or.inr z7))]
          · rintro (w | w)
            · exact nI_pos (by omega) w
            · exact nI_pos (by omega) w
          · rintro (w | w)
            · exact nI_pos (by omega) w
            · exact nI_nlt z (by omega) w
        · left
          rw [if_pos (show nI (dv L T (p + 1)) < 0 ∨ (5 : Int32) < nI (dv L T (p + 1)) from Or.inr (nI_lt (show 5 < dv L T (p + 1) by omega) (by omega)))]
      have hne : sp_ra (nI (dv L T (p + 1))) (nI (dv L T (p + 2))) (nI (dv L T (p + 3))) (A 6 0) ≠ 0 := by
        rcases hra with w | w <;> rw [w] <;> decide
      have hlt : sp_ra (nI (dv L T (p + 1))) (nI (dv L T (p + 2))) (nI (dv L T (p + 3))) (A 6 0) < 0 := by
        rcases hra with w | w <;> rw [w] <;> decide
      have e9 := xc_addNo hh.2.2 hwf.1 hne
      rw [e9, mt_b2E, if_pos hlt, if_neg q]
      exact ⟨M, rfl, fun B hB => by cases hB⟩
end XV

/-! THE CALLS, ONE BY ONE: a new thing, the image, the letters heard -/
theorem nq2 : ((0 : Int32) ≤ -2) = False := eq_false (by decide)
theorem nq4 : ((0 : Int32) ≤ -4) = False := eq_false (by decide)
theorem nq6 : ((0 : Int32) ≤ -6) = False := eq_false (by decide)
theorem cl_thing (k f u : Int32) : ck (f_X11_thing k f u) (f_X12_thing k f u) := by
  intro M h
  obtain ⟨A, n, q, L, T, w, rr, hwf, hh, hr, hI, hH, hL, hW, hF⟩ := id h
  have hvc : cv 13 M A := hh.2.2
  have hok := hwf.1
  have h7 := hok.1
  have z1 : ((1 : Int32) = 0) = False := eq_false (by decide)
  have hno : sp_ra k f u (A 6 0) ≠ 0 → f_X0_add 13 k f u M = some (sp_ra k f u (A 6 0), M) := xc_addNo hvc hok
  have e8 : ∀ M1 : mt_M, rm M1 A → (M1 147 8 = (7 : Int32)) = (A 6 0 = 7) := fun M1 hr1 => by rw [hr1.1.1]; exact propext (nI_eq (b := 7) (by omega) (by decide))
  by_cases q1 : k < 0 ∨ 5 < k
  · have es : sp_ra k f u (A 6 0) = -2 := if_pos q1
    rw [es] at hno
    have hno := hno (by decide)
    have i1 : f_X12_isIn k 0 5 = some 0 := by rw [xo_isIn, if_pos q1]
    obtain ⟨M1, c1, c2, c3⟩ := rn_2 h
    obtain ⟨M2, d1, d0, d2⟩ := c3 M1 (fun _ _ => rfl)
    have hr1 : rm M1 A := rm_fr hr (fun id hid => c2 id (by omega))
    refine ⟨-2, M1, M2, ?_, ?_, d2⟩
    · simp only [f_X11_thing, hno, nq2, mt_b1E, mt_b2E, mt_ltE, mt_00, mt_10, nm1, nm2, nm3, nm4, nm6, if_true, if_false, mt_b2_eta]
      exact c1
    · simp only [f_X12_thing, i1, mt_b1E, mt_b2E, mt_ltE, mt_00, mt_10, nm1, nm2, nm3, nm4, nm6, if_true, if_false, mt_b2_eta]
      exact d1
  · have i1 : f_X12_isIn k 0 5 = some 1 := by rw [xo_isIn, if_neg q1]
    by_cases q2 : f < 0
    · have es : sp_ra k f u (A 6 0) = -4 := by unfold sp_ra; rw [if_neg q1]; exact if_pos (Or.inl q2)
      rw [es] at hno
      have hno := hno (by decide)
      obtain ⟨M1, c1, c2, c3⟩ := rn_4 h
      obtain ⟨M2, d1, d0, d2⟩ := c3 M1 (fun _ _ => rfl)
      have hr1 : rm M1 A := rm_fr hr (fun id hid => c2 id (by omega))
      refine ⟨-4, M1, M2, ?_, ?_, d2⟩
      · simp only [f_X11_thing, hno, nq4, mt_b1E, mt_b2E, mt_ltE, mt_00, mt_10, nm1, nm2, nm3, nm4, nm6, if_true, if_false, mt_b2_eta]
        exact c1
      · simp only [f_X12_thing, i1, z1, if_pos q2, mt_b1E, mt_b2E, mt_ltE, mt_00, mt_10, nm1, nm2, nm3, nm4, nm6, if_true, if_false, mt_b2_eta]
        exact d1
    · by_cases q3 : 0 ≤ u
      · by_cases q4 : 9 < f
        · have es : sp_ra k f u (A 6 0) = -6 := by unfold sp_ra; rw [if_neg q1, if_neg (fun x => x.elim q2 (fun y => absurd y (Int32.not_lt.mpr q3)))]; exact if_pos (Or.inl q4)
          rw [es] at hno
          have hno := hno (by decide)
          obtain ⟨M1, c1, c2, c3⟩ := rn_6 h
          obtain ⟨M2, d1, d0, d2⟩ := c3 M1 (fun _ _ => rfl)
          have hr1 : rm M1 A := rm_fr hr (fun id hid => c2 id (by omega))
          refine ⟨-6, M1, M2, ?_, ?_, d2⟩
          · simp only [f_X11_thing, hno, nq6, mt_b1E, mt_b2E, mt_ltE, mt_00, mt_10, nm1, nm2, nm3, nm4, nm6, if_true, if_false, mt_b2_eta]
            exact c1
          · simp only [f_X12_thing, i1, z1, if_neg q2, if_pos q3, if_pos q4, mt_b1E, mt_b2E, mt_ltE, mt_00, mt_10, nm1, nm2, nm3, nm4, nm6, if_true, if_false, mt_b2_eta]
            exact d1
        · by_cases q5 : 9 < u
          · have es : sp_ra k f u (A 6 0) = -6 := by unfold sp_ra; rw [if_neg q1, if_neg (fun x => x.elim q2 (fun y => absurd y (Int32.not_lt.mpr q3)))]; exact if_pos (Or.inr (Or.inl q5))
            rw [es] at hno
            have hno := hno (by decide)
            obtain ⟨M1, c1, c2, c3⟩ := rn_6 h
            obtain ⟨M2, d1, d0, d2⟩ := c3 M1 (fun _ _ => rfl)
            have hr1 : rm M1 A := rm_fr hr (fun id hid => c2 id (by omega))
            refine ⟨-6, M1, M2, ?_, ?_, d2⟩
            · simp only [f_X11_thing, hno, nq6, mt_b1E, mt_b2E, mt_ltE, mt_00, mt_10, nm1, nm2, nm3, nm4, nm6, if_true, if_false, mt_b2_eta]
              exact c1
            · simp only [f_X12_thing, i1, z1, if_neg q2, if_pos q3, if_neg q4, if_pos q5, mt_b1E, mt_b2E, mt_ltE, mt_00, mt_10, nm1, nm2, nm3, nm4, nm6, if_true, if_false, mt_b2_eta]
              exact d1
          · by_cases q6 : A 6 0 = 7
            · have es : sp_ra k f u (A 6 0) = -6 := by unfold sp_ra; rw [if_neg q1, if_neg (fun x => x.elim q2 (fun y => absurd y (Int32.not_lt.mpr q3)))]; exact if_pos (Or.inr (Or.inr q6))
              rw [es] at hno
              have hno := hno (by decide)
              obtain ⟨M1, c1, c2, c3⟩ := rn_6 h
              obtain ⟨M2, d1, d0, d2⟩ := c3 M1 (fun _ _ => rfl)
              have hr1 : rm M1 A := rm_fr hr (fun id hid => c2 id (by omega))
              have q8 : (M1 147 8 = (7 : Int32)) = True := (e8 M1 hr1).trans (eq_true q6)
              refine ⟨-6, M1, M2, ?_, ?_, d2⟩
              · simp only [f_X11_thing, hno, nq6, mt_b1E, mt_b2E, mt_ltE, mt_00, mt_10, nm1, nm2, nm3, nm4, nm6, if_true, if_false, mt_b2_eta]
                exact c1
              · simp only [f_X12_thing, i1, z1, if_neg q2, if_pos q3, if_neg q4, if_neg q5, q8, mt_b1E, mt_b2E, mt_ltE, mt_00, mt_10, nm1, nm2, nm3, nm4, nm6, if_true, if_false, mt_b2_eta]
                exact d1
            · have es : sp_ra k f u (A 6 0) = 0 := by unfold sp_ra; rw [if_neg q1, if_neg (fun x => x.elim q2 (fun y => absurd y (Int32.not_lt.mpr q3)))]; exact if_neg (fun x => x.elim q4 (fun y => y.elim q5 q6))
              obtain ⟨hn7, a, b, c, ha, hb, hc, rfl, rfl, rfl⟩ := sp_ra_0 h7 es
              obtain ⟨M3, p1, p2⟩ := hc_add (h := 10) hh hok hn7 ha hb hc
              have p1 : f_X0_add 13 (nI a) (nI b) (nI c) M = some (nI (A 6 0), M3) := p1
              have frp := fr_X0_add 13 _ _ _ M p1
              have l0 : ((0 : Int32) ≤ nI (A 6 0)) = True := eq_true (nI_le (a := 0) (by omega) (by omega))
              obtain ⟨B, hBC, hBR⟩ := rH_sp hH
              have hBC3 : hC M3 n q B := hC_eq hBC (frp 43 (by decide)) (fun id x y => frp id (by omega))
              obtain ⟨k1, k2⟩ := xk_forget hBC3
              obtain ⟨M4, eM⟩ : ∃ m, m = mt_wr M3 43 2 0 := ⟨_, rfl⟩
              rw [← eM] at k1 k2
              have oC : ∀ id, (id < 10 ∨ 21 ≤ id) → (id < 43 ∨ 133 ≤ id) → M4 id = M id := fun id x y => by rw [eM, mt_wr_ne (by omega), frp id (by omega)]
              have p4 : hv 10 M4 (hs_ad A a b c) := hv_frame p2 (fun id x y => by rw [eM, mt_wr_ne (by omega)])
              have hr4 : rm M4 A := rm_fr hr (fun id x => oC id (by omega) (by omega))
              have hR4 : hR M4 n B := hR_eq hBR (by rw [oC 147 (by decide) (by decide)]) (fun j _ => by rw [oC 160 (by decide) (by decide)])
              have hr5 : rm (mt_wr M4 147 23 0) A := rm_eq (rf_fr (M := M4) (M' := mt_wr M4 147 23 0) (fun id x y => mt_wr_ne (by omega)) (fun k x => mt_wr_n (by omega))) hr4
              obtain ⟨M6, u1, u2, u3, u4⟩ := xm_adds hr5 hwf hn7 a b c
              have q8 : (M4 147 8 = (7 : Int32)) = False := (e8 M4 hr4).trans (eq_false q6)
              refine ⟨nI (A 6 0), M4, M6, ?_, ?_, rl_tail h (hs_wf_ad hwf hn7 ha hb hc) p4 u2 k2 (hR_eq (xk_forgetR hR4) (u4 147 23 (by decide) (by decide)) (fun k _ => u4 160 k (by omega) (by omega))) oC (fun id k x => by rw [u4 id k (by omega) (by omega), mt_wr_ne2 (by omega)]) (fun k x => by rw [u4 160 k (by omega) (by omega), mt_wr_ne (by decide)])⟩
              · simp only [f_X11_thing, p1, l0, k1, mt_b1E, mt_b2E, mt_ltE, mt_00, mt_10, nm1, nm2, nm3, nm4, nm6, if_true, if_false, mt_b2_eta]
              · simp only [f_X12_thing, i1, z1, if_neg q2, if_pos q3, if_neg q4, if_neg q5, q8, u1, u3, kd_n1 _ (show A 6 0 < 8 by omega), mt_b1E, mt_b2E, mt_ltE, mt_00, mt_10, nm1, nm2, nm3, nm4, nm6, if_true, if_false, mt_b2_eta]
      · have es : sp_ra k f u (A 6 0) = -4 := by unfold sp_ra; rw [if_neg q1]; exact if_pos (Or.inr (Int32.not_le.mp q3))
        rw [es] at hno
        have hno := hno (by decide)
        obtain ⟨M1, c1, c2, c3⟩ := rn_4 h
        obtain ⟨M2, d1, d0, d2⟩ := c3 M1 (fun _ _ => rfl)
        have hr1 : rm M1 A := rm_fr hr (fun id hid => c2 id (by omega))
        refine ⟨-4, M1, M2, ?_, ?_, d2⟩
        · simp only [f_X11_thing, hno, nq4, mt_b1E, mt_b2E, mt_ltE, mt_00, mt_10, nm1, nm2, nm3, nm4, nm6, if_true, if_false, mt_b2_eta]
          exact c1
        · simp only [f_X12_thing, i1, z1, if_neg q2, if_neg q3, mt_b1E, mt_b2E, mt_ltE, mt_00, mt_10, nm1, nm2, nm3, nm4, nm6, if_true, if_false, mt_b2_eta]
          exact d1
theorem cl_image : ck f_X11_image f_X12_image := by
  intro M h
  obtain ⟨A, n, q, L, T, w, rr, hwf, hh, hr, hI, hH, hL, hW, hF⟩ := id h
  have hvc : cv 13 M A := hh.2.2
  have hok := hwf.1
  have h7 := hok.1
  obtain ⟨M2, b1, b2⟩ := hc_become (h := 32) hh hwf (Or.inr (by decide))
  have fr := fr_X4_become 32 10 M b1
  obtain ⟨M4, eM⟩ : ∃ m, m = mt_wr M2 0 3 1 := ⟨_, rfl⟩
  have oC : ∀ id, id ≠ 0 → (id < 32 ∨ 43 ≤ id) → M4 id = M id := fun id x y => by rw [eM, mt_wr_ne x, fr id (by omega)]
  have hh4 : hv 10 M4 A := hv_frame hh (fun id x y => oC id (by omega) (by omega))
  have hi4 : hv 32 M4 A := hv_frame b2 (fun id x y => by rw [eM, mt_wr_ne (by omega)])
  have hr4 : rm M4 A := rm_fr hr (fun id x => oC id (by omega) (by omega))
  obtain ⟨M6, u1, u2, u3⟩ := xm_allK (M := mt_wr M4 147 20 1) (w := 0) (by decide)
  have u1 : f_X12_passesAll 0 1 (mt_wr M4 147 20 1) = some M6 := u1
  have o6 : ∀ id k, id ≠ 160 → (id ≠ 147 ∨ (k ≠ 20 ∧ k ≠ 21 ∧ k ≠ 22)) → M6 id k = M4 id k := fun id k x y => by rw [u3 id k x (by omega), mt_wr_ne2 (by omega)]
  have o6' : ∀ id, id < 147 → M6 id = M4 id := fun id x => funext fun k => o6 id k (by omega) (by omega)
  have hr6 : rm M6 A := rm_eq (rf_fr (fun id x y => funext fun k => o6 id k (by omega) (by omega)) (fun k x => o6 147 k (by decide) (by omega))) hr4
  have hrf : ∀ j, j < 63 → rf (mt_wr M4 147 20 1) j = rf M4 j := rf_fr (fun id x y => mt_wr_ne (by omega)) (fun k x => mt_wr_n (by omega))
  have w1 : M4 10 3 = nI (A 6 1) := hh4.1.1
  have w2 : M6 147 9 = nI (A 6 1) := hr6.1.2.1
  refine ⟨nI (A 6 1), M4, M6, ?_, ?_, A, n, q, L, T, w, rr, hwf, hv_frame hh4 (fun id x y => o6' id (by omega)), hr6, ?_, ?_, ?_, ?_, fun k hk => ?_⟩
  · rw [eM] at w1 ⊢
    simp only [f_X11_image, b1, w1, mt_b1E, mt_b2E, mt_ltE, mt_00, mt_10, nm1, nm2, nm3, nm4, nm6, if_true, if_false, mt_b2_eta]
  · simp only [f_X12_image, u1, w2, mt_b1E, mt_b2E, mt_ltE, mt_00, mt_10, nm1, nm2, nm3, nm4, nm6, if_true, if_false, mt_b2_eta]
  · refine Or.inr ⟨?_, ?_, A, hwf, hv_frame hi4 (fun id x y => o6' id (by omega)), rv_eq (fun j hj => ?_) (rm_rv.mp hr4)⟩
    · rw [o6' 0 (by decide), eM, mt_wr_s]
    · rw [u3 147 20 (by decide) (by decide), mt_wr_s]
    · rw [u2, if_pos (by omega), hrf _ (by omega)]
      exact congrArg (rf M4) (by omega)
  · exact rH_eq hH (by rw [o6' 43 (by decide), oC 43 (by decide) (by decide)]) (by rw [o6 147 23 (by decide) (by decide), oC 147 (by decide) (by decide)]) (fun id x y => by rw [o6' id (by omega), oC id (by omega) (by omega)]) (fun j hj => by rw [u2, if_neg (by omega), mt_wr_ne (by decide), oC 160 (by decide) (by decide)])
  · exact rL_eq hL (by rw [o6' 145 (by decide), oC 145 (by decide) (by decide)]) (by rw [o6' 146 (by decide), oC 146 (by decide) (by decide)]) (by rw [o6 147 16 (by decide) (by decide), oC 147 (by decide) (by decide)]) (fun k => by rw [o6 156 k (by omega) (by omega), oC 156 (by decide) (by decide)])
  · exact rW_eq hW (by rw [o6' 0 (by decide), eM, mt_wr_n (by decide), fr 0 (by decide)]) (by rw [o6 147 27 (by decide) (by decide), oC 147 (by decide) (by decide)]) (by rw [o6' 1 (by decide), oC 1 (by decide) (by decide)]) (fun k => by rw [o6 162 k (by omega) (by omega), oC 162 (by decide) (by decide)])
  · rw [o6' 2 (by decide), oC 2 (by decide) (by decide), o6 148 k (by omega) (by omega), oC 148 (by decide) (by decide)]
    exact hF k hk
theorem cl_restore : ck f_X11_restore f_X12_restore := by
  intro M h
  obtain ⟨A, n, q, L, T, w, rr, hwf, hh, hr, hI, hH, hL, hW, hF⟩ := id h
  have hvc : cv 13 M A := hh.2.2
  have hok := hwf.1
  have h7 := hok.1
  rcases hI with ⟨i1, i2⟩ | ⟨i1, i2, P, i3, i4, i5⟩
  · have l1 : (M 0 3 = (0 : Int32)) = True := eq_true i1
    obtain ⟨M1, c1, c2, c3⟩ := rn_3 h
    obtain ⟨M2, d1, d0, d2⟩ := c3 M1 (fun _ _ => rfl)
    have hr1 : rm M1 A := rm_fr hr (fun id hid => c2 id (by omega))
    have q9 : (M1 147 20 = (0 : Int32)) = True := eq_true (by rw [c2 147 (by decide)]; exact i2)
    refine ⟨-3, M1, M2, ?_, ?_, d2⟩
    · simp only [f_X11_restore, l1, mt_b1E, mt_b2E, mt_ltE, mt_00, mt_10, nm1, nm2, nm3, nm4, nm6, if_true, if_false, mt_b2_eta]
      exact c1
    · simp only [f_X12_restore, q9, mt_b1E, mt_b2E, mt_ltE, mt_00, mt_10, nm1, nm2, nm3, nm4, nm6, if_true, if_false, mt_b2_eta]
      exact d1
  · have l1 : (M 0 3 = (0 : Int32)) = False := eq_false (by rw [i1]; decide)
    obtain ⟨M3, b1, b2⟩ := hc_become (h := 10) i4 i3 (Or.inl (by decide))
    have fr := fr_X4_become 10 32 M b1
    obtain ⟨B, hBC, hBR⟩ := rH_sp hH
    obtain ⟨k1, k2⟩ := xk_forget (hC_eq (M' := M3) hBC (fr 43 (by decide)) (fun id x y => fr id (by omega)))
    obtain ⟨M4, eM⟩ : ∃ m, m = mt_wr M3 43 2 0 := ⟨_, rfl⟩
    rw [← eM] at k1 k2
    have oC : ∀ id, (id < 10 ∨ 21 ≤ id) → (id < 43 ∨ 133 ≤ id) → M4 id = M id := fun id x y => by rw [eM, mt_wr_ne (by omega), fr id (by omega)]
    have hh4 : hv 10 M4 P := hv_frame b2 (fun id x y => by rw [eM, mt_wr_ne (by omega)])
    have q9 : (M4 147 20 = (0 : Int32)) = False := eq_false (by rw [oC 147 (by decide) (by decide), i2]; decide)
    have hR4 : hR M4 n B := hR_eq hBR (by rw [oC 147 (by decide) (by decide)]) (fun j _ => by rw [oC 160 (by decide) (by decide)])
    obtain ⟨M6, u1, u2, u3, u4⟩ := xm_allR (M := M4) (w := 0) (by decide)
    have u1 : f_X12_passesAll 0 0 M4 = some M6 := u1
    have hr6 : rm M6 P := by
      refine rm_rv.mpr (rv_eq (fun j hj => ?_) i5)
      rw [u2 j hj, oC 160 (by decide) (by decide)]
      exact congrArg (M 160) (by omega)
    have hr7 : rm (mt_wr M6 147 23 0) P := rm_eq (rf_fr (M := M6) (M' := mt_wr M6 147 23 0) (fun id x y => mt_wr_ne (by omega)) (fun k x => mt_wr_n (by omega))) hr6
    have w1 : M4 10 3 = nI (P 6 1) := hh4.1.1
    have w2 : mt_wr M6 147 23 0 147 9 = nI (P 6 1) := hr7.1.2.1
    refine ⟨nI (P 6 1), M4, mt_wr M6 147 23 0, ?_, ?_, rl_tail h i3 hh4 hr7 k2 (show hR (mt_wr M6 147 23 0) 0 B from ⟨by omega, mt_wr_s _ _ _ _, fun i hi => by omega⟩) oC (fun id k x => by rw [mt_wr_ne2 (by omega), u4 id k (by omega) (by omega)]) (fun k x => by rw [mt_wr_ne (by decide), u3])⟩
    · simp only [f_X11_restore, l1, b1, k1, w1, mt_b1E, mt_b2E, mt_ltE, mt_00, mt_10, nm1, nm2, nm3, nm4, nm6, if_true, if_false, mt_b2_eta]
    · simp only [f_X12_restore, q9, u1, w2, mt_b1E, mt_b2E, mt_ltE, mt_00, mt_10, nm1, nm2, nm3, nm4, nm6, if_true, if_false, mt_b2_eta]
theorem aq_some {L : Nat} {T : Nat → Nat} {A : hs_A} {f : Nat} : ∀ K, (aq L T A K).2 = some f → ∃ k, k < K ∧ f = pl L T k
  | 0 => fun h => by cases h
  | K + 1 => fun h => by
    cases e : (aq L T A K).2 with
    | some g =>
      have e1 : aq L T A (K + 1) = aq L T A K := aq_stay e 1
      rw [e1] at h
      obtain ⟨k, h1, h2⟩ := aq_some K h
      exact ⟨k, by omega, h2⟩
    | none =>
      cases e2 : ap (aq L T A K).1 (T (pl L T K)) (dv L T (pl L T K + 1)) (dv L T (pl L T K + 2)) (dv L T (pl L T K + 3)) with
      | none =>
        rw [aq_n e e2] at h
        exact ⟨K, by omega, (Option.some.inj h).symm⟩
      | some B =>
        rw [aq_s e e2] at h
        cases h
theorem aq_le {L : Nat} {T : Nat → Nat} {A : hs_A} {f K : Nat} (hL : L ≤ 96) (hK : eK L T K) (h : (aq L T A K).2 = some f) : f < 256 := by
  obtain ⟨k, h1, rfl⟩ := aq_some K h
  have h2 := hK.2 k h1
  by_cases q : 1 ≤ k
  · have h3 : ¬ fn L T k := fun x => h2 (Or.inl x)
    unfold fn at h3
    omega
  · have h4 : k = 0 := by omega
    subst h4
    have h5 : pl L T 0 = 0 := rfl
    omega
theorem rl_heard {M M4 M6 : mt_M} (h : rl M) {A : hs_A} {n q : Nat} {T : Nat → Nat} (hwf : hs_wf A) (hh : hv 10 M4 A) (hr : rm M6 A) (hH : rH M6 n q) (h145 : M4 145 1 = 0) (h16 : M6 147 16 = 0) (oC : ∀ id k, (id < 10 ∨ 32 ≤ id) → (id < 43 ∨ 133 ≤ id) → (id ≠ 145 ∨ k ≠ 1) → M4 id k = M id k) (hx : xK M4 M6) : rl M6 := by
  obtain ⟨-, -, -, L, -, w, rr, -, -, -, hI, -, hL, hW, hF⟩ := h
  obtain ⟨x1, x2, x3, x4⟩ := hx
  have o : ∀ id, id < 147 → M6 id = M4 id := fun id a => funext fun k => x4 id k a
  refine ⟨A, n, q, 0, T, w, rr, hwf, hv_frame hh (fun id a b => o id (by omega)), hr, ?_, hH, ⟨by omega, ?_, h16, fun k hk => by omega, fun k hk => by omega, fun k hk => by omega⟩, ?_, fun k hk => ?_⟩
  · exact rI_eq hI (by rw [o 0 (by decide), oC 0 3 (by decide) (by decide) (by decide)]) (by rw [x3 20 (by decide), oC 147 20 (by decide) (by decide) (by decide)]) (fun id a b => by rw [o id (by omega)]; exact funext fun k => oC id k (by omega) (by omega) (by omega)) (fun j hj => by rw [x1 j (by omega), oC 160 j (by omega) (by omega) (by omega)])
  · rw [o 145 (by decide)]; exact h145
  · exact rW_eq hW (by rw [o 0 (by decide), oC 0 8 (by decide) (by decide) (by decide)]) (by rw [x3 27 (by decide), oC 147 27 (by decide) (by decide) (by decide)]) (by rw [o 1 (by decide)]; exact funext fun k => oC 1 k (by decide) (by decide) (by omega)) (fun k => by rw [x2 162 k (by decide), oC 162 k (by omega) (by omega) (by omega)])
  · rw [o 2 (by decide), oC 2 k (by decide) (by decide) (by omega), x2 148 k (by decide), oC 148 k (by omega) (by omega) (by omega)]
    exact hF k hk
theorem cl_house : ck f_X11_house f_X12_house := by
  intro M h
  obtain ⟨A, n, q, L, T, w, rr, hwf, hh, hr, hI, hH, hL, hW, hF⟩ := id h
  have hvc : cv 13 M A := hh.2.2
  have hok := hwf.1
  have h7 := hok.1
  obtain ⟨L1, L2, L3, L4, L5, L6⟩ := hL
  obtain ⟨K, hK⟩ := eK_ex T L1
  by_cases hf : fn L T K
  · cases hq : (aq L T A K).2 with
    | some f =>
      obtain ⟨M4, p1, p2, p3⟩ := xt_house2 L2 L1 L4 L6 hh hwf hK hf hq (aq_le L1 hK hq)
      have hr4 : rm M4 A := rm_fr hr (fun id a => funext fun k => p3 id k (by omega) (by omega))
      have hR : xR M4 L T := ⟨(p3 147 16 (by decide) (by decide)).trans L3, fun k hk => (p3 156 k (by omega) (by omega)).trans (L5 k hk)⟩
      obtain ⟨M6, u1, u2, u3, u4, u5⟩ := (xm_house hr4 hwf hR L1 L6 hK).2.1 hf f hq
      refine ⟨-2000 - nI f, M4, M6, p1, u1, rl_heard (T := T) h hwf (hv_frame hh (fun id a b => funext fun k => p3 id k (by omega) (by omega))) u2 (rH_eq hH ?_ ?_ ?_ ?_) p2 u3 (fun id k a b c => p3 id k (by omega) c) u5⟩
      · exact funext fun k => by rw [u5.2.2.2 43 k (by decide), p3 43 k (by decide) (by omega)]
      · rw [u4, p3 147 23 (by decide) (by decide)]
      · exact fun id a b => funext fun k => by rw [u5.2.2.2 id k (by omega), p3 id k (by omega) (by omega)]
      · exact fun j hj => by rw [u5.1 j (by omega), p3 160 j (by omega) (by omega)]
    | none =>
      obtain ⟨M4, p1, p2, p3, p4, p5⟩ := xt_house3 L2 L1 L4 L6 hh hwf hK hf hq
      have hr4 : rm M4 A := rm_fr hr (fun id a => funext fun k => p5 id k (by omega) (by omega) (by omega))
      have hR : xR M4 L T := ⟨(p5 147 16 (by decide) (by decide) (by decide)).trans L3, fun k hk => (p5 156 k (by omega) (by omega) (by omega)).trans (L5 k hk)⟩
      obtain ⟨M6, u1, u2, u3, u4, u5⟩ := (xm_house hr4 hwf hR L1 L6 hK).2.2 hf hq
      refine ⟨nI K, M4, M6, p1, u1, rl_heard (T := T) h (aq_wf hwf K) p2 u2 (n := 0) (q := q) ⟨hH.1, by omega, ?_, ?_, u4, fun i hi => by omega⟩ p3 u3 (fun id k a b c => p5 id k a c (by omega)) u5⟩
      · rw [u5.2.2.2 43 1 (by decide), p5 43 1 (by decide) (by decide) (by decide)]; exact hH.2.2.1
      · rw [u5.2.2.2 43 2 (by decide)]; exact p4
  · have p1 := xt_house1 L2 L1 L4 L6 hK hf
    have p3 : ∀ id k, (id ≠ 145 ∨ k ≠ 1) → mt_wr M 145 1 0 id k = M id k := fun id k a => mt_wr_ne2 a
    have hr4 : rm (mt_wr M 145 1 0) A := rm_fr hr (fun id a => mt_wr_ne (by omega))
    have hR : xR (mt_wr M 145 1 0) L T := ⟨(p3 147 16 (by decide)).trans L3, fun k hk => (p3 156 k (by omega)).trans (L5 k hk)⟩
    obtain ⟨M6, u1, u2, u3, u4, u5⟩ := (xm_house hr4 hwf hR L1 L6 hK).1 hf
    refine ⟨-1000 - sp_om (ts L T (pl L T K)), mt_wr M 145 1 0, M6, p1, u1, rl_heard (T := T) h hwf (hv_frame hh (fun id a b => mt_wr_ne (by omega))) u2 (rH_eq hH ?_ ?_ ?_ ?_) (mt_wr_s _ _ _ _) u3 (fun id k a b c => p3 id k c) u5⟩
    · exact funext fun k => by rw [u5.2.2.2 43 k (by decide), p3 43 k (by omega)]
    · rw [u4, p3 147 23 (by decide)]
    · exact fun id a b => funext fun k => by rw [u5.2.2.2 id k (by omega), p3 id k (by omega)]
    · exact fun j hj => by rw [u5.1 j (by omega), p3 160 j (by omega)]

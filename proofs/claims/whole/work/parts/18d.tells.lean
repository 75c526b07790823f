/-! THE CALLS, ONE BY ONE: what is told of one; longs; the row; letters -/
section XL
variable {M : mt_M} {A : hs_A} {t : Nat}
theorem xc_lost (hv : cv 13 M A) (hok : hs_ok A) (ht : t < A 6 0) : f_X0_lostOf 13 (nI t) M = some (nI (sp_lo (A 0 t) (A 1 t) (A 3 t))) := by
  obtain ⟨r1, r2, r3, r4, r5, r6⟩ := xc_row hv hok ht
  obtain ⟨b1, b2, b3, b4⟩ := hok.2 t ht
  simp only [f_X0_lostOf, r6, r3, r1, mt_b1E, kd_lo (A 0 t) (by omega) (A 3 t) (by omega) (A 1 t) (by omega)]
end XL
theorem cl_thingOf (t u : Int32) : ck (f_X11_thingOf t u) (f_X12_thingOf t u) := by
  intro M h
  obtain ⟨A, n, q, L, T, w, rr, hwf, hh, hr, hI, hH, hL, hW, hF⟩ := id h
  have hv : cv 13 M A := hh.2.2
  have hok := hwf.1
  have h7 := hok.1
  rcases th_c h7 hv hr t with ⟨e1, e0⟩ | ⟨x, hx, rfl⟩
  · obtain ⟨M1, c1, c2, c3⟩ := rn_1 h
    obtain ⟨M2, d1, d0, d2⟩ := c3 M1 (fun _ _ => rfl)
    have hr1 : rm M1 A := rm_fr hr (fun id hid => c2 id (by omega))
    have e2 : f_X12_isThing t M1 = some 0 := by
      unfold f_X12_isThing at e0 ⊢
      rw [c2 147 (by decide)]
      exact e0
    refine ⟨-1, M1, M2, ?_, ?_, d2⟩
    · simp only [f_X11_thingOf, e1, mt_b1E, mt_b2E, mt_ltE, mt_00, mt_10, nm1, nm2, nm3, nm4, nm6, if_true, if_false, mt_b2_eta]
      exact c1
    · simp only [f_X12_thingOf, e2, mt_b1E, mt_b2E, mt_ltE, mt_00, mt_10, nm1, nm2, nm3, nm4, nm6, if_true, if_false, mt_b2_eta]
      exact d1
  · rcases oo_c u (b := 8) 8 rfl (by decide) with ⟨o1, o2⟩ | ⟨o1, o2, i, i1, rfl⟩
    · have hne : ∀ k, k ≤ 8 → (u = nI k) = False := fun k hk => eq_false (fun e => by
        subst e
        rw [xo_oneOf, if_neg (fun q => q.elim (nI_pos (by omega)) (by
          have : ¬ nI 8 < nI k := nI_nlt hk (by omega)
          exact this))] at o1
        cases o1)
      have z0 : (u = (0 : Int32)) = False := hne 0 (by decide)
      have z1 : (u = (1 : Int32)) = False := hne 1 (by decide)
      have z2 : (u = (2 : Int32)) = False := hne 2 (by decide)
      have z3 : (u = (3 : Int32)) = False := hne 3 (by decide)
      have z4 : (u = (4 : Int32)) = False := hne 4 (by decide)
      have z5 : (u = (5 : Int32)) = False := hne 5 (by decide)
      have z6 : (u = (6 : Int32)) = False := hne 6 (by decide)
      have z7 : (u = (7 : Int32)) = False := hne 7 (by decide)
      have z8 : (u = (8 : Int32)) = False := hne 8 (by decide)
      obtain ⟨M1, c1, c2, c3⟩ := rn_2 h
      obtain ⟨M2, d1, d0, d2⟩ := c3 M1 (fun _ _ => rfl)
      have hr1 : rm M1 A := rm_fr hr (fun id hid => c2 id (by omega))
      have e1 := xc_hasT hv h7 hx
      have e2 := xm_isT hr1 h7 hx
      refine ⟨-2, M1, M2, ?_, ?_, d2⟩
      · simp only [f_X11_thingOf, e1, o1, mt_b1E, mt_b2E, mt_ltE, mt_00, mt_10, nm1, nm2, nm3, nm4, nm6, if_true, if_false, mt_b2_eta]
        exact c1
      · simp only [f_X12_thingOf, e2, z0, z1, z2, z3, z4, z5, z6, z7, z8, mt_b1E, mt_b2E, mt_ltE, mt_00, mt_10, nm1, nm2, nm3, nm4, nm6, if_true, if_false, mt_b2_eta]
        exact d1
    · have e1 := xc_hasT hv h7 hx
      have e2 := xm_isT hr h7 hx
      have hin : vp_in (nI x) 7 := vp_in_nI (by omega) (by omega)
      have hcl : (nI x).toNatClampNeg = x := nI_clamp (by omega)
      obtain ⟨r1, r2, r3, r4, r5, r6⟩ := xc_row hv hok hx
      have r7 := xc_lost hv hok hx
      obtain ⟨y1, y2, y3⟩ := xm_row hr hok hx
      obtain ⟨k1, k2, k3, k4, -⟩ := hr.2 x hx (by omega)
      have kk := (hv.2 x hx).1
      have g0 : f_X0_harmOf 13 (nI x) 0 M = some (nI (sp_hr A x 0)) := xc_harm hv hok hx (g := 0) (by decide)
      have g2 : f_X0_harmOf 13 (nI x) 2 M = some (nI (sp_hr A x 2)) := xc_harm hv hok hx (g := 2) (by decide)
      have q0 : f_X12_harmOf (nI x) 0 M = some (nI (sp_hr A x 0)) := xm_harm hr hok hx (g := 0) (by decide)
      have q2 : f_X12_harmOf (nI x) 2 M = some (nI (sp_hr A x 2)) := xm_harm hr hok hx (g := 2) (by decide)
      rcases (show i = 0 ∨ i = 1 ∨ i = 2 ∨ i = 3 ∨ i = 4 ∨ i = 5 ∨ i = 6 ∨ i = 7 ∨ i = 8 by omega) with rfl | rfl | rfl | rfl | rfl | rfl | rfl | rfl | rfl
      · have z0 : (nI 0 = (0 : Int32)) = True := eq_true rfl
        refine ⟨nI (A 0 x), M, M, ?_, ?_, h⟩
        · simp only [f_X11_thingOf, f_X0_tellOf, e1, o1, z0, mt_ci_t hin, hcl, kk, r1, r2, r3, r4, r5, r7, g0, g2, mt_b1E, mt_b2E, mt_ltE, mt_00, mt_10, nm1, nm2, nm3, nm4, nm6, if_true, if_false, mt_b2_eta]
        · simp only [f_X12_thingOf, e2, z0, mt_ci_t hin, hcl, k1, k2, k3, k4, y1, y2, y3, q0, q2, mt_b1E, mt_b2E, mt_ltE, mt_00, mt_10, nm1, nm2, nm3, nm4, nm6, if_true, if_false, mt_b2_eta]
      · have z0 : (nI 1 = (0 : Int32)) = False := eq_false (by decide)
        have z1 : (nI 1 = (1 : Int32)) = True := eq_true rfl
        refine ⟨nI (A 1 x), M, M, ?_, ?_, h⟩
        · simp only [f_X11_thingOf, f_X0_tellOf, e1, o1, z0, z1, mt_ci_t hin, hcl, kk, r1, r2, r3, r4, r5, r7, g0, g2, mt_b1E, mt_b2E, mt_ltE, mt_00, mt_10, nm1, nm2, nm3, nm4, nm6, if_true, if_false, mt_b2_eta]
        · simp only [f_X12_thingOf, e2, z0, z1, mt_ci_t hin, hcl, k1, k2, k3, k4, y1, y2, y3, q0, q2, mt_b1E, mt_b2E, mt_ltE, mt_00, mt_10, nm1, nm2, nm3, nm4, nm6, if_true, if_false, mt_b2_eta]
      · have z0 : (nI 2 = (0 : Int32)) = False := eq_false (by decide)
        have z1 : (nI 2 = (1 : Int32)) = False := eq_false (by decide)
        have z2 : (nI 2 = (2 : Int32)) = True := eq_true rfl
        refine ⟨nI (A 2 x), M, M, ?_, ?_, h⟩
        · simp only [f_X11_thingOf, f_X0_tellOf, e1, o1, z0, z1, z2, mt_ci_t hin, hcl, kk, r1, r2, r3, r4, r5, r7, g0, g2, mt_b1E, mt_b2E, mt_ltE, mt_00, mt_10, nm1, nm2, nm3, nm4, nm6, if_true, if_false, mt_b2_eta]
        · simp only [f_X12_thingOf, e2, z0, z1, z2, mt_ci_t hin, hcl, k1, k2, k3, k4, y1, y2, y3, q0, q2, mt_b1E, mt_b2E, mt_ltE, mt_00, mt_10, nm1, nm2, nm3, nm4, nm6, if_true, if_false, mt_b2_eta]
      · have z0 : (nI 3 = (0 : Int32)) = False := eq_false (by decide)
        have z1 : (nI 3 = (1 : Int32)) = False := eq_false (by decide)
        have z2 : (nI 3 = (2 : Int32)) = False := eq_false (by decide)
        have z3 : (nI 3 = (3 : Int32)) = True := eq_true rfl
        refine ⟨nI (A 3 x), M, M, ?_, ?_, h⟩
        · simp only [f_X11_thingOf, f_X0_tellOf, e1, o1, z0, z1, z2, z3, mt_ci_t hin, hcl, kk, r1, r2, r3, r4, r5, r7, g0, g2, mt_b1E, mt_b2E, mt_ltE, mt_00, mt_10, nm1, nm2, nm3, nm4, nm6, if_true, if_false, mt_b2_eta]
        · simp only [f_X12_thingOf, e2, z0, z1, z2, z3, mt_ci_t hin, hcl, k1, k2, k3, k4, y1, y2, y3, q0, q2, mt_b1E, mt_b2E, mt_ltE, mt_00, mt_10, nm1, nm2, nm3, nm4, nm6, if_true, if_false, mt_b2_eta]
      · have z0 : (nI 4 = (0 : Int32)) = False := eq_false (by decide)
        have z1 : (nI 4 = (1 : Int32)) = False := eq_false (by decide)
        have z2 : (nI 4 = (2 : Int32)) = False := eq_false (by decide)
        have z3 : (nI 4 = (3 : Int32)) = False := eq_false (by decide)
        have z4 : (nI 4 = (4 : Int32)) = True := eq_true rfl
        refine ⟨nI (sp_pr (A 0 x) (A 1 x)), M, M, ?_, ?_, h⟩
        · simp only [f_X11_thingOf, f_X0_tellOf, e1, o1, z0, z1, z2, z3, z4, mt_ci_t hin, hcl, kk, r1, r2, r3, r4, r5, r7, g0, g2, mt_b1E, mt_b2E, mt_ltE, mt_00, mt_10, nm1, nm2, nm3, nm4, nm6, if_true, if_false, mt_b2_eta]
        · simp only [f_X12_thingOf, e2, z0, z1, z2, z3, z4, mt_ci_t hin, hcl, k1, k2, k3, k4, y1, y2, y3, q0, q2, mt_b1E, mt_b2E, mt_ltE, mt_00, mt_10, nm1, nm2, nm3, nm4, nm6, if_true, if_false, mt_b2_eta]
      · have z0 : (nI 5 = (0 : Int32)) = False := eq_false (by decide)
        have z1 : (nI 5 = (1 : Int32)) = False := eq_false (by decide)
        have z2 : (nI 5 = (2 : Int32)) = False := eq_false (by decide)
        have z3 : (nI 5 = (3 : Int32)) = False := eq_false (by decide)
        have z4 : (nI 5 = (4 : Int32)) = False := eq_false (by decide)
        have z5 : (nI 5 = (5 : Int32)) = True := eq_true rfl
        refine ⟨nI (sp_pk (A 0 x)), M, M, ?_, ?_, h⟩
        · simp only [f_X11_thingOf, f_X0_tellOf, e1, o1, z0, z1, z2, z3, z4, z5, mt_ci_t hin, hcl, kk, r1, r2, r3, r4, r5, r7, g0, g2, mt_b1E, mt_b2E, mt_ltE, mt_00, mt_10, nm1, nm2, nm3, nm4, nm6, if_true, if_false, mt_b2_eta]
        · simp only [f_X12_thingOf, e2, z0, z1, z2, z3, z4, z5, mt_ci_t hin, hcl, k1, k2, k3, k4, y1, y2, y3, q0, q2, mt_b1E, mt_b2E, mt_ltE, mt_00, mt_10, nm1, nm2, nm3, nm4, nm6, if_true, if_false, mt_b2_eta]
      · have z0 : (nI 6 = (0 : Int32)) = False := eq_false (by decide)
        have z1 : (nI 6 = (1 : Int32)) = False := eq_false (by decide)
        have z2 : (nI 6 = (2 : Int32)) = False := eq_false (by decide)
        have z3 : (nI 6 = (3 : Int32)) = False := eq_false (by decide)
        have z4 : (nI 6 = (4 : Int32)) = False := eq_false (by decide)
        have z5 : (nI 6 = (5 : Int32)) = False := eq_false (by decide)
        have z6 : (nI 6 = (6 : Int32)) = True := eq_true rfl
        refine ⟨nI (sp_lo (A 0 x) (A 1 x) (A 3 x)), M, M, ?_, ?_, h⟩
        · simp only [f_X11_thingOf, f_X0_tellOf, e1, o1, z0, z1, z2, z3, z4, z5, z6, mt_ci_t hin, hcl, kk, r1, r2, r3, r4, r5, r7, g0, g2, mt_b1E, mt_b2E, mt_ltE, mt_00, mt_10, nm1, nm2, nm3, nm4, nm6, if_true, if_false, mt_b2_eta]
        · simp only [f_X12_thingOf, e2, z0, z1, z2, z3, z4, z5, z6, mt_ci_t hin, hcl, k1, k2, k3, k4, y1, y2, y3, q0, q2, mt_b1E, mt_b2E, mt_ltE, mt_00, mt_10, nm1, nm2, nm3, nm4, nm6, if_true, if_false, mt_b2_eta]
      · have z0 : (nI 7 = (0 : Int32)) = False := eq_false (by decide)
        have z1 : (nI 7 = (1 : Int32)) = False := eq_false (by decide)
        have z2 : (nI 7 = (2 : Int32)) = False := eq_false (by decide)
        have z3 : (nI 7 = (3 : Int32)) = False := eq_false (by decide)
        have z4 : (nI 7 = (4 : Int32)) = False := eq_false (by decide)
        have z5 : (nI 7 = (5 : Int32)) = False := eq_false (by decide)
        have z6 : (nI 7 = (6 : Int32)) = False := eq_false (by decide)
        have z7 : (nI 7 = (7 : Int32)) = True := eq_true rfl
        refine ⟨nI (sp_hr A x 0), M, M, ?_, ?_, h⟩
        · simp only [f_X11_thingOf, f_X0_tellOf, e1, o1, z0, z1, z2, z3, z4, z5, z6, z7, mt_ci_t hin, hcl, kk, r1, r2, r3, r4, r5, r7, g0, g2, mt_b1E, mt_b2E, mt_ltE, mt_00, mt_10, nm1, nm2, nm3, nm4, nm6, if_true, if_false, mt_b2_eta]
        · simp only [f_X12_thingOf, e2, z0, z1, z2, z3, z4, z5, z6, z7, mt_ci_t hin, hcl, k1, k2, k3, k4, y1, y2, y3, q0, q2, mt_b1E, mt_b2E, mt_ltE, mt_00, mt_10, nm1, nm2, nm3, nm4, nm6, if_true, if_false, mt_b2_eta]
      · have z0 : (nI 8 = (0 : Int32)) = False := eq_false (by decide)
        have z1 : (nI 8 = (1 : Int32)) = False := eq_false (by decide)
        have z2 : (nI 8 = (2 : Int32)) = False := eq_false (by decide)
        have z3 : (nI 8 = (3 : Int32)) = False := eq_false (by decide)
        have z4 : (nI 8 = (4 : Int32)) = False := eq_false (by decide)
        have z5 : (nI 8 = (5 : Int32)) = False := eq_false (by decide)
        have z6 : (nI 8 = (6 : Int32)) = False := eq_false (by decide)
        have z7 : (nI 8 = (7 : Int32)) = False := eq_false (by decide)
        have z8 : (nI 8 = (8 : Int32)) = True := eq_true rfl
        refine ⟨nI (sp_hr A x 2), M, M, ?_, ?_, h⟩
        · simp only [f_X11_thingOf, f_X0_tellOf, e1, o1, z0, z1, z2, z3, z4, z5, z6, z7, z8, mt_ci_t hin, hcl, kk, r1, r2, r3, r4, r5, r7, g0, g2, mt_b1E, mt_b2E, mt_ltE, mt_00, mt_10, nm1, nm2, nm3, nm4, nm6, if_true, if_false, mt_b2_eta]
        · simp only [f_X12_thingOf, e2, z0, z1, z2, z3, z4, z5, z6, z7, z8, mt_ci_t hin, hcl, k1, k2, k3, k4, y1, y2, y3, q0, q2, mt_b1E, mt_b2E, mt_ltE, mt_00, mt_10, nm1, nm2, nm3, nm4, nm6, if_true, if_false, mt_b2_eta]
theorem ln_c {M M' : mt_M} {A : hs_A} (h7 : A 6 0 ≤ 7) (hv : cv 13 M A) (hr : rm M' A) (l t : Int32) : (f_X4_isLine 10 l t M = some 0 ∧ f_X12_isLine l t M' = some 0) ∨ ∃ a b, a < 2 ∧ b < A 6 0 ∧ l = nI a ∧ t = nI b := by
  have hv : cv (10 + 3) M A := hv
  rcases oo_c l (b := 1) 1 rfl (by decide) with ⟨o1, o2⟩ | ⟨o1, o2, i, i1, rfl⟩
  · left
    have hz : f_X12_isList l = some 0 := by
      unfold f_X12_isList
      by_cases q : l = 0
      · subst q; cases o1
      · rw [if_neg q]
        by_cases q1 : l = 1
        · subst q1; cases o1
        · rw [if_neg q1]
    exact ⟨by simp only [f_X4_isLine, o1, mt_b1E, if_true], by simp only [f_X12_isLine, hz, mt_b1E, if_true]⟩
  · have hz : f_X12_isList (nI i) = some 1 := by rcases (show i = 0 ∨ i = 1 by omega) with rfl | rfl <;> rfl
    rcases th_c h7 hv hr t with ⟨e1, e2⟩ | ⟨x, hx, rfl⟩
    · left
      exact ⟨by simp only [f_X4_isLine, o1, e1, mt_b1E, mt_10, if_false, if_true], by simp only [f_X12_isLine, hz, e2, mt_b1E, mt_10, if_false, if_true]⟩
    · exact Or.inr ⟨i, x, by omega, hx, rfl, rfl⟩
theorem isL_fr {M M1 : mt_M} {l t : Int32} (h : M1 147 = M 147) : f_X12_isLine l t M1 = f_X12_isLine l t M := by
  unfold f_X12_isLine f_X12_isThing
  rw [h]
theorem cl_lineOf (l t u : Int32) : ck (f_X11_lineOf l t u) (f_X12_lineOf l t u) := by
  intro M h
  obtain ⟨A, n, q, L, T, w, rr, hwf, hh, hr, hI, hH, hL, hW, hF⟩ := id h
  have hv : cv 13 M A := hh.2.2
  have hok := hwf.1
  have h7 := hok.1
  rcases ln_c h7 hv hr l t with ⟨e1, e0⟩ | ⟨a, b, ha, hb, rfl, rfl⟩
  · obtain ⟨M1, c1, c2, c3⟩ := rn_1 h
    obtain ⟨M2, d1, d0, d2⟩ := c3 M1 (fun _ _ => rfl)
    have e2 : f_X12_isLine l t M1 = some 0 := (isL_fr (c2 147 (by decide))).trans e0
    refine ⟨-1, M1, M2, ?_, ?_, d2⟩
    · simp only [f_X11_lineOf, e1, mt_b1E, mt_b2E, mt_ltE, mt_00, mt_10, nm1, nm2, nm3, nm4, nm6, if_true, if_false, mt_b2_eta]
      exact c1
    · simp only [f_X12_lineOf, e2, mt_b1E, mt_b2E, mt_ltE, mt_00, mt_10, nm1, nm2, nm3, nm4, nm6, if_true, if_false, mt_b2_eta]
      exact d1
  · have e1 := hc_isLine hh hwf ha hb
    rcases oo_c u (b := 1) 1 rfl (by decide) with ⟨o1, o2⟩ | ⟨o1, o2, i, i1, rfl⟩
    · have u0 : (u = (0 : Int32)) = False := eq_false (fun q => by subst q; cases o1)
      have u1 : (u = (1 : Int32)) = False := eq_false (fun q => by subst q; cases o1)
      obtain ⟨M1, c1, c2, c3⟩ := rn_2 h
      obtain ⟨M2, d1, d0, d2⟩ := c3 M1 (fun _ _ => rfl)
      have hr1 : rm M1 A := rm_fr hr (fun id hid => c2 id (by omega))
      have e2 : f_X12_isLine (nI a) (nI b) M1 = some 1 := by
        rw [xm_isLine2 hr1 h7 (by omega) (by omega), if_pos (by simp; omega)]
      refine ⟨-2, M1, M2, ?_, ?_, d2⟩
      · simp only [f_X11_lineOf, e1, o1, mt_b1E, mt_b2E, mt_ltE, mt_00, mt_10, nm1, nm2, nm3, nm4, nm6, if_true, if_false, mt_b2_eta]
        exact c1
      · simp only [f_X12_lineOf, e2, u0, u1, mt_b1E, mt_b2E, mt_ltE, mt_00, mt_10, nm1, nm2, nm3, nm4, nm6, if_true, if_false, mt_b2_eta]
        exact d1
    · have e2 : f_X12_isLine (nI a) (nI b) M = some 1 := by
        rw [xm_isLine2 hr h7 (by omega) (by omega), if_pos (by simp; omega)]
      have hin : vp_in (nI (7 * a + b)) 14 := vp_in_nI (by omega) (by omega)
      have hcl : (nI (7 * a + b)).toNatClampNeg = 7 * a + b := nI_clamp (by omega)
      obtain ⟨-, -, -, -, w0, w1, k0, k1⟩ := hr.2 b hb (by omega)
      have hm := hwf.m
      have e7 : (7 : Int32) * nI a + nI b = nI (7 * a + b) := by rw [mi_7, pk_mul, nI_add]
      rcases (show i = 0 ∨ i = 1 by omega) with rfl | rfl
      · have z : (nI 0 = (0 : Int32)) = True := eq_true rfl
        have ew := hc_wanted hh ha
        have eb : M 153 (7 * a + b) = if (A 6 (7 + a)).testBit b = true then 1 else 0 := by
          rcases (show a = 0 ∨ a = 1 by omega) with rfl | rfl
          · rw [show 7 * 0 + b = b by omega]; exact w0
          · exact w1
        have hlt : A 6 (7 + a) < 2 ^ 31 := by
          rcases (show a = 0 ∨ a = 1 by omega) with rfl | rfl
          · have := hm.1; exact Nat.lt_trans this (by decide)
          · have := hm.2; exact Nat.lt_trans this (by decide)
        refine ⟨if (A 6 (7 + a)).testBit b = true then 1 else 0, M, M, ?_, ?_, h⟩
        · simp only [f_X11_lineOf, e1, o1, z, ew, mt_bitN hlt (show b < 31 by omega), mt_b1E, mt_b2E, mt_ltE, mt_00, mt_10, nm1, nm2, nm3, nm4, nm6, if_true, if_false, mt_b2_eta]
        · simp only [f_X12_lineOf, e2, z, e7, mt_ci_t hin, hcl, eb, mt_b1E, mt_b2E, mt_ltE, mt_00, mt_10, nm1, nm2, nm3, nm4, nm6, if_true, if_false, mt_b2_eta]
      · have z : (nI 1 = (0 : Int32)) = False := eq_false (by decide)
        have z1 : (nI 1 = (1 : Int32)) = True := eq_true rfl
        have ek := hc_clock hh hwf ha hb
        have eb : M 154 (7 * a + b) = nI (sp_cK A a b) := by
          unfold sp_cK
          rcases (show a = 0 ∨ a = 1 by omega) with rfl | rfl
          · rw [if_pos rfl, show 7 * 0 + b = b by omega]; exact k0
          · rw [if_neg (by decide)]; exact k1
        refine ⟨nI (sp_cK A a b), M, M, ?_, ?_, h⟩
        · simp only [f_X11_lineOf, e1, o1, z, ek, mt_b1E, mt_b2E, mt_ltE, mt_00, mt_10, nm1, nm2, nm3, nm4, nm6, if_true, if_false, mt_b2_eta]
        · simp only [f_X12_lineOf, e2, z, z1, e7, mt_ci_t hin, hcl, eb, mt_b1E, mt_b2E, mt_ltE, mt_00, mt_10, nm1, nm2, nm3, nm4, nm6, if_true, if_false, mt_b2_eta]
theorem cl_count (u : Int32) : cp (f_X11_count u) (f_X12_count u) := by
  intro M h
  obtain ⟨A, n, q, L, T, w, rr, hwf, hh, hr, hI, hH, hL, hW, hF⟩ := id h
  have hv : cv 13 M A := hh.2.2
  have hok := hwf.1
  have h7 := hok.1
  obtain ⟨L1, L2, L3, L4, L5, L6⟩ := hL
  obtain ⟨w1, w2, w3, w4, w5, w6⟩ := hW
  obtain ⟨n1, n2, n3, n4, n5, n6⟩ := hH
  obtain ⟨⟨g1, g2, g3, g4, g5⟩, -, -⟩ := id hh
  obtain ⟨⟨a1, a2, a3, a4, a5, a6, a7⟩, -⟩ := id hr
  by_cases z : 11 ≤ u ∧ u ≤ 16
  · obtain ⟨j, hj, rfl⟩ := nI_of (show ¬ u < 0 from fun q => absurd (Int32.lt_of_le_of_lt z.1 q) (by decide))
    have j1 : 11 ≤ j := (nI_leI (a := 11) (by decide) hj).mp z.1
    have j2 : j ≤ 16 := (nI_leI (b := 16) hj (by decide)).mp z.2
    have e : nI j - (10 : Int32) = nI (j - 10) := pk_sub (b := 10) (by omega)
    have hin : vp_in (nI (j - 10)) 7 := vp_in_nI (by omega) (by omega)
    have hcl : (nI (j - 10)).toNatClampNeg = j - 10 := nI_clamp (by omega)
    have y1 : (nI j < (11 : Int32)) = False := eq_false (by rw [mi_11]; exact nI_nlt j1 (by omega))
    have y2 : ((16 : Int32) < nI j) = False := eq_false (by rw [mi_16]; exact nI_nlt j2 (by omega))
    refine ⟨M 2 (j - 10), ?_, ?_⟩
    · simp only [f_X11_count, mt_ltE, y1, y2, if_false, e, mt_ci_t hin, hcl]
    · have ei : f_X12_isIn (nI j) 11 16 = some 1 := by
        unfold f_X12_isIn
        simp only [y1, y2, if_false]
      simp only [f_X12_count, ei, mt_b1E, mt_10, if_false, e, mt_ci_t hin, hcl]
      rw [hF (j - 10) (by omega)]
  · have ec : ∀ B C : Option Int32, (if u < 11 then B else if 16 < u then B else C) = B := fun B C => by
      by_cases q : u < 11
      · rw [if_pos q]
      · by_cases q2 : 16 < u
        · rw [if_neg q, if_pos q2]
        · exact absurd ⟨Int32.not_lt.mp q, Int32.not_lt.mp q2⟩ z
    have ei : f_X12_isIn u 11 16 = some 0 := by
      unfold f_X12_isIn
      exact ec _ _
    have e1 : f_X11_count u M = if u = (0 : Int32) then some (M 13 8) else if u = (1 : Int32) then some (M 10 3) else if u = (2 : Int32) then some (M 10 4) else if u = (3 : Int32) then some (M 10 5) else if u = (4 : Int32) then some (M 13 9) else if u = (5 : Int32) then some (M 13 10) else if u = (6 : Int32) then some (M 13 11) else if u = (7 : Int32) then mt_b1 (f_X0_stockOfAll 13 M) (fun (r12 : Int32) => some (r12)) else if u = (8 : Int32) then mt_b1 (f_X4_wantedBy 10 (0 : Int32) M) (fun (r15 : Int32) => mt_b1 (f_J6_bitCount r15) (fun (r17 : Int32) => mt_b1 (f_X4_wantedBy 10 (1 : Int32) M) (fun (r19 : Int32) => mt_b1 (f_J6_bitCount r19) (fun (r21 : Int32) => some ((r17 + r21)))))) else if u = (9 : Int32) then some (M 145 1) else if u = (10 : Int32) then some (M 0 8) else if u = (11 : Int32) then some ((-9 : Int32)) else if u = (12 : Int32) then some ((-9 : Int32)) else if u = (13 : Int32) then some ((-9 : Int32)) else if u = (14 : Int32) then some ((-9 : Int32)) else if u = (15 : Int32) then some ((-9 : Int32)) else if u = (16 : Int32) then some ((-9 : Int32)) else if u = (17 : Int32) then some (M 43 2) else some ((-9 : Int32)) := by
      unfold f_X11_count
      rw [mt_ltE]
      exact ec _ _
    have hm := hwf.m
    have x7 := kd_pc _ hm.1
    have x8 := kd_pc _ hm.2
    have y7 := xm_bits (m := A 6 7) (Nat.lt_trans hm.1 (by decide))
    have y8 := xm_bits (m := A 6 8) (Nat.lt_trans hm.2 (by decide))
    have v0 : f_X4_wantedBy 10 0 M = some (nI (A 6 7)) := hc_wanted hh (l := 0) (by decide)
    have v1 : f_X4_wantedBy 10 1 M = some (nI (A 6 8)) := hc_wanted hh (l := 1) (by decide)
    have u0 : f_X12_wants 0 M = some (nI (A 6 7)) := xm_wants hr hwf (l := 0) (by decide)
    have u1 : f_X12_wants 1 M = some (nI (A 6 8)) := xm_wants hr hwf (l := 1) (by decide)
    rw [e1]
    simp only [f_X12_count, ei, mt_b1E, if_true]
    by_cases q0 : u = 0
    · subst q0
      have ea := hv.1.1
      have eb := a1
      refine ⟨_, congrArg some ea, congrArg some eb⟩
    by_cases q1 : u = 1
    · subst q1
      have ea := g1
      have eb := a2
      refine ⟨_, congrArg some ea, congrArg some eb⟩
    by_cases q2 : u = 2
    · subst q2
      have ea := g2
      have eb := a3
      refine ⟨_, congrArg some ea, congrArg some eb⟩
    by_cases q3 : u = 3
    · subst q3
      have ea := g3
      have eb := a4
      refine ⟨_, congrArg some ea, congrArg some eb⟩
    by_cases q4 : u = 4
    · subst q4
      have ea := hv.1.2.1
      have eb := a5
      refine ⟨_, congrArg some ea, ?_⟩
      have e : f_X12_count 4 M = some (M 155 0) := rfl
      refine Eq.trans ?_ (congrArg some eb)
      rfl
    by_cases q5 : u = 5
    · subst q5
      have ea := hv.1.2.2.1
      have eb := a6
      refine ⟨_, congrArg some ea, ?_⟩
      have e : f_X12_count 5 M = some (M 155 1) := rfl
      refine Eq.trans ?_ (congrArg some eb)
      rfl
    by_cases q6 : u = 6
    · subst q6
      have ea := hv.1.2.2.2
      have eb := a7
      refine ⟨_, congrArg some ea, ?_⟩
      have e : f_X12_count 6 M = some (M 155 2) := rfl
      refine Eq.trans ?_ (congrArg some eb)
      rfl
    by_cases q7 : u = 7
    · subst q7
      refine ⟨nI (sp_sm (A 6 0) (A 3)), ?_, ?_⟩
      · refine Eq.trans (b := mt_b1 (f_X0_stockOfAll 13 M) (fun (r12 : Int32) => some (r12))) rfl ?_
        rw [xc_stockAll hv hok, mt_b1E]
      · refine Eq.trans (b := mt_lp2 (fun k17 (x15 : Int32) (x16 : Int32) => if (M 147 8) ≤ x16 then some (x15) else mt_ci x16 7 (mt_lt (x15 + (M 152 x16.toNatClampNeg)) (fun (x21 : Int32) => mt_lt (x16 + (1 : Int32)) (fun (x22 : Int32) => k17 x21 x22)))) mt_FU (0 : Int32) (0 : Int32)) rfl ?_
        refine mt_lz2 (P := fun r => r = some (nI (sp_sm (A 6 0) (A 3)))) (fun i x y => x = nI (sp_sm i (A 3)) ∧ y = nI i) (A 6 0) (by omega) ?_ ?_ ⟨rfl, rfl⟩
        · rintro i hi x y ⟨rfl, rfl⟩ k
          left
          have hin : vp_in (nI i) 7 := vp_in_nI (by omega) (by omega)
          have hcl : (nI i).toNatClampNeg = i := nI_clamp (by omega)
          refine ⟨_, _, ⟨rfl, rfl⟩, ?_⟩
          rw [a1, if_neg (nI_ge hi (by omega))]
          simp only [mt_ci_t hin, mt_ltE, hcl, (hr.2 i hi (by omega)).2.2.2.1, nI_add, nI_1, sp_sm]
        · rintro x y ⟨rfl, rfl⟩ k
          rw [a1, if_pos (nI_le (Nat.le_refl _) (by omega))]
    by_cases q8 : u = 8
    · subst q8
      refine ⟨nI (sp_pc (A 6 7) + sp_pc (A 6 8)), ?_, ?_⟩
      · refine Eq.trans (b := mt_b1 (f_X4_wantedBy 10 (0 : Int32) M) (fun (r15 : Int32) => mt_b1 (f_J6_bitCount r15) (fun (r17 : Int32) => mt_b1 (f_X4_wantedBy 10 (1 : Int32) M) (fun (r19 : Int32) => mt_b1 (f_J6_bitCount r19) (fun (r21 : Int32) => some ((r17 + r21))))))) rfl ?_
        rw [v0, mt_b1E, x7, mt_b1E, v1, mt_b1E, x8, mt_b1E, nI_add]
      · refine Eq.trans (b := mt_b1 (f_X12_wants (0 : Int32) M) (fun (r25 : Int32) => mt_b1 (f_X12_bits r25) (fun (r27 : Int32) => mt_b1 (f_X12_wants (1 : Int32) M) (fun (r29 : Int32) => mt_b1 (f_X12_bits r29) (fun (r31 : Int32) => some ((r27 + r31))))))) rfl ?_
        rw [u0, mt_b1E, y7, mt_b1E, u1, mt_b1E, y8, mt_b1E, nI_add]
    by_cases q9 : u = 9
    · subst q9
      exact ⟨_, congrArg some L2, congrArg some L3⟩
    by_cases q10 : u = 10
    · subst q10
      exact ⟨_, congrArg some w2, congrArg some w3⟩
    by_cases q17 : u = 17
    · subst q17
      exact ⟨_, congrArg some n4, congrArg some n5⟩
    rw [if_neg q0, if_neg q1, if_neg q2, if_neg q3, if_neg q4, if_neg q5, if_neg q6, if_neg q7, if_neg q8, if_neg q9, if_neg q10]
    rw [if_neg q0, if_neg q1, if_neg q2, if_neg q3, if_neg q4, if_neg q5, if_neg q6, if_neg q7, if_neg q8, if_neg q9, if_neg q10]
    have en : ∀ B : Option Int32, (if u = (11 : Int32) then some ((-9 : Int32)) else if u = (12 : Int32) then some ((-9 : Int32)) else if u = (13 : Int32) then some ((-9 : Int32)) else if u = (14 : Int32) then some ((-9 : Int32)) else if u = (15 : Int32) then some ((-9 : Int32)) else if u = (16 : Int32) then some ((-9 : Int32)) else if u = (17 : Int32) then B else some ((-9 : Int32))) = some (-9) := fun B => by
      rw [if_neg q17]
      split; rfl
      split; rfl
      split; rfl
      split; rfl
      split; rfl
      split; rfl
      rfl
    exact ⟨-9, en _, en _⟩

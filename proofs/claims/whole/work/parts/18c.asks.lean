/-! THE CALLS, ONE BY ONE: more questions -/
theorem cl_joined (v u : Int32) : ck (f_X11_joined v u) (f_X12_joined v u) := by
  intro M h
  obtain ⟨A, n, q, L, T, w, rr, hwf, hh, hr, hI, hH, hL, hW, hF⟩ := id h
  have hv : cv 13 M A := hh.2.2
  have hok := hwf.1
  have h7 := hok.1
  rcases oo_c v (b := 3) 3 rfl (by decide) with ⟨p1, p2⟩ | ⟨p1, p2, j, j1, rfl⟩
  · obtain ⟨M1, c1, c2, c3⟩ := rn_2 h
    obtain ⟨M2, d1, d0, d2⟩ := c3 M1 (fun _ _ => rfl)
    have hr1 : rm M1 A := rm_fr hr (fun id hid => c2 id (by omega))
    refine ⟨-2, M1, M2, ?_, ?_, d2⟩
    · simp only [f_X11_joined, p1, mt_b1E, mt_b2E, mt_ltE, mt_00, mt_10, nm1, nm2, nm3, nm4, nm6, if_true, if_false, mt_b2_eta]
      exact c1
    · simp only [f_X12_joined, p2, mt_b1E, mt_b2E, mt_ltE, mt_00, mt_10, nm1, nm2, nm3, nm4, nm6, if_true, if_false, mt_b2_eta]
      exact d1
  · rcases oo_c u (b := 2) 2 rfl (by decide) with ⟨o1, o2⟩ | ⟨o1, o2, i, i1, rfl⟩
    · obtain ⟨M1, c1, c2, c3⟩ := rn_2 h
      obtain ⟨M2, d1, d0, d2⟩ := c3 M1 (fun _ _ => rfl)
      have hr1 : rm M1 A := rm_fr hr (fun id hid => c2 id (by omega))
      refine ⟨-2, M1, M2, ?_, ?_, d2⟩
      · simp only [f_X11_joined, p1, o1, mt_b1E, mt_b2E, mt_ltE, mt_00, mt_10, nm1, nm2, nm3, nm4, nm6, if_true, if_false, mt_b2_eta]
        exact c1
      · simp only [f_X12_joined, p2, o2, mt_b1E, mt_b2E, mt_ltE, mt_00, mt_10, nm1, nm2, nm3, nm4, nm6, if_true, if_false, mt_b2_eta]
        exact d1
    · rcases (show i = 0 ∨ i = 1 ∨ i = 2 by omega) with rfl | rfl | rfl
      · have z : (nI 0 = (0 : Int32)) = True := eq_true rfl
        exact ⟨_, M, M, by simp only [f_X11_joined, p1, o1, z, hc_after hh hwf j1, mt_b1E, mt_b2E, mt_ltE, mt_00, mt_10, nm1, nm2, nm3, nm4, nm6, if_true, if_false, mt_b2_eta]; rfl, by simp only [f_X12_joined, p2, o2, z, xm_wantsBy hr hwf j1, mt_b1E, mt_b2E, mt_ltE, mt_00, mt_10, nm1, nm2, nm3, nm4, nm6, if_true, if_false, mt_b2_eta], h⟩
      · have z : (nI 1 = (0 : Int32)) = False := eq_false (by decide)
        have z1 : (nI 1 = (1 : Int32)) = True := eq_true rfl
        exact ⟨_, M, M, by simp only [f_X11_joined, p1, o1, z, z1, hc_lost hh hwf j1, mt_b1E, mt_b2E, mt_ltE, mt_00, mt_10, nm1, nm2, nm3, nm4, nm6, if_true, if_false, mt_b2_eta]; rfl, by simp only [f_X12_joined, p2, o2, z, z1, xm_wantsBy hr hwf j1, xm_latestWants hr hwf, nx_andn, sp_mk_an, mt_b1E, mt_b2E, mt_ltE, mt_00, mt_10, nm1, nm2, nm3, nm4, nm6, if_true, if_false, mt_b2_eta], h⟩
      · have z : (nI 2 = (0 : Int32)) = False := eq_false (by decide)
        have z1 : (nI 2 = (1 : Int32)) = False := eq_false (by decide)
        exact ⟨_, M, M, by simp only [f_X11_joined, p1, o1, z, z1, hc_brought hh hwf j1, mt_b1E, mt_b2E, mt_ltE, mt_00, mt_10, nm1, nm2, nm3, nm4, nm6, if_true, if_false, mt_b2_eta]; rfl, by simp only [f_X12_joined, p2, o2, z, z1, xm_wantsBy hr hwf j1, xm_latestWants hr hwf, nx_andn, sp_mk_an, mt_b1E, mt_b2E, mt_ltE, mt_00, mt_10, nm1, nm2, nm3, nm4, nm6, if_true, if_false, mt_b2_eta], h⟩
theorem cl_bestRule (u : Int32) : ck (f_X11_bestRule u) (f_X12_bestRule u) := by
  intro M h
  obtain ⟨A, n, q, L, T, w, rr, hwf, hh, hr, hI, hH, hL, hW, hF⟩ := id h
  have hv : cv 13 M A := hh.2.2
  have hok := hwf.1
  have h7 := hok.1
  rcases oo_c u (b := 1) 1 rfl (by decide) with ⟨o1, o2⟩ | ⟨o1, o2, i, i1, rfl⟩
  · obtain ⟨M1, c1, c2, c3⟩ := rn_2 h
    obtain ⟨M2, d1, d0, d2⟩ := c3 M1 (fun _ _ => rfl)
    have hr1 : rm M1 A := rm_fr hr (fun id hid => c2 id (by omega))
    refine ⟨-2, M1, M2, ?_, ?_, d2⟩
    · simp only [f_X11_bestRule, o1, mt_b1E, mt_b2E, mt_ltE, mt_00, mt_10, nm1, nm2, nm3, nm4, nm6, if_true, if_false, mt_b2_eta]
      exact c1
    · simp only [f_X12_bestRule, o2, mt_b1E, mt_b2E, mt_ltE, mt_00, mt_10, nm1, nm2, nm3, nm4, nm6, if_true, if_false, mt_b2_eta]
      exact d1
  · have hw : nI i = 0 ∨ nI i = 1 := by rcases (show i = 0 ∨ i = 1 by omega) with rfl | rfl; exact Or.inl rfl; exact Or.inr rfl
    exact ⟨_, M, M, hc_best hh hwf hw, xm_best hr hwf hw, h⟩
theorem cl_alike (u : Int32) : ck (f_X11_alike u) (f_X12_alike u) := by
  intro M h
  obtain ⟨A, n, q, L, T, w, rr, hwf, hh, hr, hI, hH, hL, hW, hF⟩ := id h
  have hv : cv 13 M A := hh.2.2
  have hok := hwf.1
  have h7 := hok.1
  rcases oo_c u (b := 1) 1 rfl (by decide) with ⟨o1, o2⟩ | ⟨o1, o2, i, i1, rfl⟩
  · obtain ⟨M1, c1, c2, c3⟩ := rn_2 h
    obtain ⟨M2, d1, d0, d2⟩ := c3 M1 (fun _ _ => rfl)
    have hr1 : rm M1 A := rm_fr hr (fun id hid => c2 id (by omega))
    refine ⟨-2, M1, M2, ?_, ?_, d2⟩
    · simp only [f_X11_alike, o1, mt_b1E, mt_b2E, mt_ltE, mt_00, mt_10, nm1, nm2, nm3, nm4, nm6, if_true, if_false, mt_b2_eta]
      exact c1
    · simp only [f_X12_alike, o2, mt_b1E, mt_b2E, mt_ltE, mt_00, mt_10, nm1, nm2, nm3, nm4, nm6, if_true, if_false, mt_b2_eta]
      exact d1
  · have hw : nI i = 0 ∨ nI i = 1 := by rcases (show i = 0 ∨ i = 1 by omega) with rfl | rfl; exact Or.inl rfl; exact Or.inr rfl
    obtain ⟨M1, c1, c2⟩ := xa_alike hv hok hw
    have hr1 : rm M1 A := rm_fr hr (fun id hid => c2 id (by omega))
    exact ⟨_, M1, M1, c1, xb_alike hr1 hok hw, rl_q0 h (fun id h1 _ => c2 id h1)⟩
theorem cl_buyFor (t v : Int32) : ck (f_X11_buyFor t v) (f_X12_buyFor t v) := by
  intro M h
  obtain ⟨A, n, q, L, T, w, rr, hwf, hh, hr, hI, hH, hL, hW, hF⟩ := id h
  have hv : cv 13 M A := hh.2.2
  have hok := hwf.1
  have h7 := hok.1
  obtain ⟨r, b1, b2, hb⟩ := bo_c v (lo := 1) (hi := 30) 1 30 rfl rfl (by decide) (by decide)
  by_cases t1 : t = -1
  · subst t1
    have z : ((1 : Int32) = 0) = False := eq_false (by decide)
    have zm : ((-1 : Int32) < 0) = True := eq_true (by decide)
    rcases hb with (rfl | rfl) | ⟨rfl, j, j1, j2, rfl⟩
    · obtain ⟨M1, c1, c2, c3⟩ := rn_4 h
      obtain ⟨M2, d1, d0, d2⟩ := c3 M1 (fun _ _ => rfl)
      have hr1 : rm M1 A := rm_fr hr (fun id hid => c2 id (by omega))
      refine ⟨-4, M1, M2, ?_, ?_, d2⟩
      · simp only [f_X11_buyFor, b1, z, mt_b1E, mt_b2E, mt_ltE, mt_00, mt_10, nm1, nm2, nm3, nm4, nm6, if_true, if_false, mt_b2_eta]
        exact c1
      · simp only [f_X12_buyFor, b2, mt_b1E, mt_b2E, mt_ltE, mt_00, mt_10, nm1, nm2, nm3, nm4, nm6, if_true, if_false, mt_b2_eta]
        exact d1
    · obtain ⟨M1, c1, c2, c3⟩ := rn_6 h
      obtain ⟨M2, d1, d0, d2⟩ := c3 M1 (fun _ _ => rfl)
      have hr1 : rm M1 A := rm_fr hr (fun id hid => c2 id (by omega))
      refine ⟨-6, M1, M2, ?_, ?_, d2⟩
      · simp only [f_X11_buyFor, b1, z, mt_b1E, mt_b2E, mt_ltE, mt_00, mt_10, nm1, nm2, nm3, nm4, nm6, if_true, if_false, mt_b2_eta]
        exact c1
      · simp only [f_X12_buyFor, b2, mt_b1E, mt_b2E, mt_ltE, mt_00, mt_10, nm1, nm2, nm3, nm4, nm6, if_true, if_false, mt_b2_eta]
        exact d1
    · obtain ⟨M1, c1, cw, c2⟩ := xn_note hv hok (n := j) (by omega)
      have hr1 : rm M1 A := rm_fr hr (fun id hid => c2 id (by omega))
      have hv1 : cv 13 M1 A := c2.cv hv
      obtain ⟨M2, d1, d2⟩ := xr_penceAll hr1 hok j1 j2
      have e := xn_pence hv1 h7 cw (fun t ht v hv => sp_co_le hok ht hv)
      refine ⟨_, M1, M2, ?_, d1, rl_q h (fun id _ h' => c2 id h') d2.mq1⟩
      simp only [f_X11_buyFor, b1, z, c1, e, mt_b1E, mt_b2E, mt_ltE, mt_00, mt_10, nm1, nm2, nm3, nm4, nm6, if_true, if_false, mt_b2_eta]
  · have tf : (t = -1) = False := eq_false t1
    rcases th_c h7 hv hr t with ⟨e1, e0⟩ | ⟨x, hx, rfl⟩
    · obtain ⟨M1, c1, c2, c3⟩ := rn_1 h
      obtain ⟨M2, d1, d0, d2⟩ := c3 M1 (fun _ _ => rfl)
      have hr1 : rm M1 A := rm_fr hr (fun id hid => c2 id (by omega))
      have e2 : f_X12_isThing t M1 = some 0 := by
        unfold f_X12_isThing at e0 ⊢
        rw [c2 147 (by decide)]
        exact e0
      refine ⟨-1, M1, M2, ?_, ?_, d2⟩
      · simp only [f_X11_buyFor, f_X11_refusalOf, tf, e1, mt_b1E, mt_b2E, mt_ltE, mt_00, mt_10, nm1, nm2, nm3, nm4, nm6, if_true, if_false, mt_b2_eta]
        exact c1
      · simp only [f_X12_buyFor, tf, e2, mt_b1E, mt_b2E, mt_ltE, mt_00, mt_10, nm1, nm2, nm3, nm4, nm6, if_true, if_false, mt_b2_eta]
        exact d1
    · have xp : (nI x < 0) = False := eq_false (nI_pos (by omega))
      rcases hb with (rfl | rfl) | ⟨rfl, j, j1, j2, rfl⟩
      · obtain ⟨M1, c1, c2, c3⟩ := rn_4 h
        obtain ⟨M2, d1, d0, d2⟩ := c3 M1 (fun _ _ => rfl)
        have hr1 : rm M1 A := rm_fr hr (fun id hid => c2 id (by omega))
        have e1 := xc_hasT hv h7 hx
        have e2 := xm_isT hr1 h7 hx
        refine ⟨-4, M1, M2, ?_, ?_, d2⟩
        · simp only [f_X11_buyFor, f_X11_refusalOf, tf, e1, b1, mt_b1E, mt_b2E, mt_ltE, mt_00, mt_10, nm1, nm2, nm3, nm4, nm6, if_true, if_false, mt_b2_eta]
          exact c1
        · simp only [f_X12_buyFor, tf, e2, b2, mt_b1E, mt_b2E, mt_ltE, mt_00, mt_10, nm1, nm2, nm3, nm4, nm6, if_true, if_false, mt_b2_eta]
          exact d1
      · obtain ⟨M1, c1, c2, c3⟩ := rn_6 h
        obtain ⟨M2, d1, d0, d2⟩ := c3 M1 (fun _ _ => rfl)
        have hr1 : rm M1 A := rm_fr hr (fun id hid => c2 id (by omega))
        have e1 := xc_hasT hv h7 hx
        have e2 := xm_isT hr1 h7 hx
        refine ⟨-6, M1, M2, ?_, ?_, d2⟩
        · simp only [f_X11_buyFor, f_X11_refusalOf, tf, e1, b1, mt_b1E, mt_b2E, mt_ltE, mt_00, mt_10, nm1, nm2, nm3, nm4, nm6, if_true, if_false, mt_b2_eta]
          exact c1
        · simp only [f_X12_buyFor, tf, e2, b2, mt_b1E, mt_b2E, mt_ltE, mt_00, mt_10, nm1, nm2, nm3, nm4, nm6, if_true, if_false, mt_b2_eta]
          exact d1
      · have e1 := xc_hasT hv h7 hx
        obtain ⟨M1, c1, c2⟩ := xn_packs hv hok hx (n := j) (by omega)
        have hr1 : rm M1 A := rm_fr hr (fun id hid => c2 id (by omega))
        have e2 := xm_isT hr1 h7 hx
        obtain ⟨M2, d1, d2⟩ := xr_packs hr1 hok hx (n := j) (by omega)
        refine ⟨nI (sp_pks A x j), M1, M2, ?_, ?_, rl_q h (fun id _ h' => c2 id h') d2.mq1⟩
        · simp only [f_X11_buyFor, f_X11_refusalOf, tf, e1, b1, mt_b1E, mt_b2E, mt_ltE, mt_00, mt_10, nm1, nm2, nm3, nm4, nm6, if_true, if_false, mt_b2_eta]
          exact c1
        · simp only [f_X12_buyFor, tf, e2, b2, xp, mt_b1E, mt_b2E, mt_ltE, mt_00, mt_10, nm1, nm2, nm3, nm4, nm6, if_true, if_false, mt_b2_eta]
          exact d1
theorem eo_c (a b : Int32) : sp_eo a b 10 = -4 ∨ sp_eo a b 10 = -6 ∨ (sp_eo a b 10 = 0 ∧ ∃ p q, p ≤ 10 ∧ q ≤ 10 ∧ a = nI p ∧ b = nI q) := by
  by_cases h : sp_eo a b 10 = 0
  · exact Or.inr (Or.inr ⟨h, sp_eo_n h⟩)
  · unfold sp_eo at h ⊢
    by_cases h2 : a < 0 ∨ b < 0
    · rw [if_pos h2]; exact Or.inl rfl
    · rw [if_neg h2] at h ⊢
      by_cases h3 : 10 < a ∨ 10 < b
      · rw [if_pos h3]; exact Or.inr (Or.inl rfl)
      · rw [if_neg h3] at h; exact absurd rfl h
theorem cl_unheard (t a b u : Int32) : ck (f_X11_unheard t a b u) (f_X12_unheard t a b u) := by
  intro M h
  obtain ⟨A, n, q, L, T, w, rr, hwf, hh, hr, hI, hH, hL, hW, hF⟩ := id h
  have hv : cv 13 M A := hh.2.2
  have hok := hwf.1
  have h7 := hok.1
  obtain ⟨o, o0⟩ : ∃ o, f_X11_isOneOf u 4 = some o := ⟨_, xo_oneOf _ _⟩
  have x1 := xo_either a b 10
  have x2 := xm_tenths a b
  rcases th_c h7 hv hr t with ⟨e1, e0⟩ | ⟨x, hx, rfl⟩
  · obtain ⟨M1, c1, c2, c3⟩ := rn_1 h
    obtain ⟨M2, d1, d0, d2⟩ := c3 M1 (fun _ _ => rfl)
    have hr1 : rm M1 A := rm_fr hr (fun id hid => c2 id (by omega))
    have e2 : f_X12_isThing t M1 = some 0 := by
      unfold f_X12_isThing at e0 ⊢
      rw [c2 147 (by decide)]
      exact e0
    refine ⟨-1, M1, M2, ?_, ?_, d2⟩
    · simp only [f_X11_unheard, e1, o0, f_X11_firstOf, mt_b1E, mt_b2E, mt_ltE, mt_00, mt_10, nm1, nm2, nm3, nm4, nm6, if_true, if_false, mt_b2_eta]
      exact c1
    · simp only [f_X12_unheard, e2, mt_b1E, mt_b2E, mt_ltE, mt_00, mt_10, nm1, nm2, nm3, nm4, nm6, if_true, if_false, mt_b2_eta]
      exact d1
  · rcases eo_c a b with hb | hb | ⟨hb, p, q', hp, hq, rfl, rfl⟩
    · obtain ⟨M1, c1, c2, c3⟩ := rn_4 h
      obtain ⟨M2, d1, d0, d2⟩ := c3 M1 (fun _ _ => rfl)
      have hr1 : rm M1 A := rm_fr hr (fun id hid => c2 id (by omega))
      have e1 := xc_hasT hv h7 hx
      have e2 := xm_isT hr1 h7 hx
      refine ⟨-4, M1, M2, ?_, ?_, d2⟩
      · simp only [f_X11_unheard, e1, o0, x1, hb, f_X11_firstOf, mt_b1E, mt_b2E, mt_ltE, mt_00, mt_10, nm1, nm2, nm3, nm4, nm6, if_true, if_false, mt_b2_eta]
        exact c1
      · simp only [f_X12_unheard, e2, x2, hb, mt_b1E, mt_b2E, mt_ltE, mt_00, mt_10, nm1, nm2, nm3, nm4, nm6, if_true, if_false, mt_b2_eta]
        exact d1
    · obtain ⟨M1, c1, c2, c3⟩ := rn_6 h
      obtain ⟨M2, d1, d0, d2⟩ := c3 M1 (fun _ _ => rfl)
      have hr1 : rm M1 A := rm_fr hr (fun id hid => c2 id (by omega))
      have e1 := xc_hasT hv h7 hx
      have e2 := xm_isT hr1 h7 hx
      refine ⟨-6, M1, M2, ?_, ?_, d2⟩
      · simp only [f_X11_unheard, e1, o0, x1, hb, f_X11_firstOf, mt_b1E, mt_b2E, mt_ltE, mt_00, mt_10, nm1, nm2, nm3, nm4, nm6, if_true, if_false, mt_b2_eta]
        exact c1
      · simp only [f_X12_unheard, e2, x2, hb, mt_b1E, mt_b2E, mt_ltE, mt_00, mt_10, nm1, nm2, nm3, nm4, nm6, if_true, if_false, mt_b2_eta]
        exact d1
    · rcases oo_c u (b := 4) 4 rfl (by decide) with ⟨o1, o2⟩ | ⟨o1, o2, i, i1, rfl⟩
      · obtain ⟨M1, c1, c2, c3⟩ := rn_2 h
        obtain ⟨M2, d1, d0, d2⟩ := c3 M1 (fun _ _ => rfl)
        have hr1 : rm M1 A := rm_fr hr (fun id hid => c2 id (by omega))
        have e1 := xc_hasT hv h7 hx
        have e2 := xm_isT hr1 h7 hx
        refine ⟨-2, M1, M2, ?_, ?_, d2⟩
        · simp only [f_X11_unheard, e1, o1, x1, hb, f_X11_firstOf, mt_b1E, mt_b2E, mt_ltE, mt_00, mt_10, nm1, nm2, nm3, nm4, nm6, if_true, if_false, mt_b2_eta]
          exact c1
        · simp only [f_X12_unheard, e2, x2, hb, o2, mt_b1E, mt_b2E, mt_ltE, mt_00, mt_10, nm1, nm2, nm3, nm4, nm6, if_true, if_false, mt_b2_eta]
          exact d1
      · exact ⟨_, M, M, xu_unheard hv hok hx hp hq i1, xm_unheard hr hok hx hp hq i1, h⟩
theorem cl_all (a b u : Int32) : ck (f_X11_all a b u) (f_X12_all a b u) := by
  intro M h
  obtain ⟨A, n, q, L, T, w, rr, hwf, hh, hr, hI, hH, hL, hW, hF⟩ := id h
  have hv : cv 13 M A := hh.2.2
  have hok := hwf.1
  have h7 := hok.1
  obtain ⟨o, o0⟩ : ∃ o, f_X11_isOneOf u 1 = some o := ⟨_, xo_oneOf _ _⟩
  have x1 := xo_either a b 10
  have x2 := xm_tenths a b
  rcases eo_c a b with hb | hb | ⟨hb, p, q', hp, hq, rfl, rfl⟩
  · obtain ⟨M1, c1, c2, c3⟩ := rn_4 h
    obtain ⟨M2, d1, d0, d2⟩ := c3 M1 (fun _ _ => rfl)
    have hr1 : rm M1 A := rm_fr hr (fun id hid => c2 id (by omega))
    refine ⟨-4, M1, M2, ?_, ?_, d2⟩
    · simp only [f_X11_all, o0, x1, hb, f_X11_firstOf, mt_b1E, mt_b2E, mt_ltE, mt_00, mt_10, nm1, nm2, nm3, nm4, nm6, if_true, if_false, mt_b2_eta]
      exact c1
    · simp only [f_X12_all, x2, hb, mt_b1E, mt_b2E, mt_ltE, mt_00, mt_10, nm1, nm2, nm3, nm4, nm6, if_true, if_false, mt_b2_eta]
      exact d1
  · obtain ⟨M1, c1, c2, c3⟩ := rn_6 h
    obtain ⟨M2, d1, d0, d2⟩ := c3 M1 (fun _ _ => rfl)
    have hr1 : rm M1 A := rm_fr hr (fun id hid => c2 id (by omega))
    refine ⟨-6, M1, M2, ?_, ?_, d2⟩
    · simp only [f_X11_all, o0, x1, hb, f_X11_firstOf, mt_b1E, mt_b2E, mt_ltE, mt_00, mt_10, nm1, nm2, nm3, nm4, nm6, if_true, if_false, mt_b2_eta]
      exact c1
    · simp only [f_X12_all, x2, hb, mt_b1E, mt_b2E, mt_ltE, mt_00, mt_10, nm1, nm2, nm3, nm4, nm6, if_true, if_false, mt_b2_eta]
      exact d1
  · rcases oo_c u (b := 1) 1 rfl (by decide) with ⟨o1, o2⟩ | ⟨o1, o2, i, i1, rfl⟩
    · obtain ⟨M1, c1, c2, c3⟩ := rn_2 h
      obtain ⟨M2, d1, d0, d2⟩ := c3 M1 (fun _ _ => rfl)
      have hr1 : rm M1 A := rm_fr hr (fun id hid => c2 id (by omega))
      refine ⟨-2, M1, M2, ?_, ?_, d2⟩
      · simp only [f_X11_all, o1, x1, hb, f_X11_firstOf, mt_b1E, mt_b2E, mt_ltE, mt_00, mt_10, nm1, nm2, nm3, nm4, nm6, if_true, if_false, mt_b2_eta]
        exact c1
      · simp only [f_X12_all, x2, hb, o2, mt_b1E, mt_b2E, mt_ltE, mt_00, mt_10, nm1, nm2, nm3, nm4, nm6, if_true, if_false, mt_b2_eta]
        exact d1
    · exact ⟨_, M, M, xu_all hv hok hp hq i1, xm_all hr hok hp hq i1, h⟩
theorem sp_an2 (x a b : Nat) : sp_an x (a ||| b) = sp_an (sp_an x a) b := by
  apply Nat.eq_of_testBit_eq
  intro i
  rw [sp_an_t, sp_an_t, sp_an_t, Nat.testBit_or]
  cases x.testBit i <;> cases a.testBit i <;> cases b.testBit i <;> rfl
theorem cl_paper (v : Int32) : ck (f_X11_paper v) (f_X12_paper v) := by
  intro M h
  obtain ⟨A, n, q, L, T, w, rr, hwf, hh, hr, hI, hH, hL, hW, hF⟩ := id h
  have hv : cv 13 M A := hh.2.2
  have hok := hwf.1
  have h7 := hok.1
  obtain ⟨r, b1, b2, hb⟩ := bo_c v (lo := 0) (hi := 127) 0 127 rfl rfl (by decide) (by decide)
  rcases hb with (rfl | rfl) | ⟨rfl, j, j1, j2, rfl⟩
  · obtain ⟨M1, c1, c2, c3⟩ := rn_4 h
    obtain ⟨M2, d1, d0, d2⟩ := c3 M1 (fun _ _ => rfl)
    have hr1 : rm M1 A := rm_fr hr (fun id hid => c2 id (by omega))
    refine ⟨-4, M1, M2, ?_, ?_, d2⟩
    · simp only [f_X11_paper, b1, mt_b1E, mt_b2E, mt_ltE, mt_00, mt_10, nm1, nm2, nm3, nm4, nm6, if_true, if_false, mt_b2_eta]
      exact c1
    · simp only [f_X12_paper, b2, mt_b1E, mt_b2E, mt_ltE, mt_00, mt_10, nm1, nm2, nm3, nm4, nm6, if_true, if_false, mt_b2_eta]
      exact d1
  · obtain ⟨M1, c1, c2, c3⟩ := rn_6 h
    obtain ⟨M2, d1, d0, d2⟩ := c3 M1 (fun _ _ => rfl)
    have hr1 : rm M1 A := rm_fr hr (fun id hid => c2 id (by omega))
    refine ⟨-6, M1, M2, ?_, ?_, d2⟩
    · simp only [f_X11_paper, b1, mt_b1E, mt_b2E, mt_ltE, mt_00, mt_10, nm1, nm2, nm3, nm4, nm6, if_true, if_false, mt_b2_eta]
      exact c1
    · simp only [f_X12_paper, b2, mt_b1E, mt_b2E, mt_ltE, mt_00, mt_10, nm1, nm2, nm3, nm4, nm6, if_true, if_false, mt_b2_eta]
      exact d1
  · have a0 : f_X4_wantedBy 10 0 M = some (nI (A 6 7)) := hc_wanted hh (l := 0) (by decide)
    have a1 : f_X4_wantedBy 10 1 M = some (nI (A 6 8)) := hc_wanted hh (l := 1) (by decide)
    have d0 : f_X12_wants 0 M = some (nI (A 6 7)) := xm_wants hr hwf (l := 0) (by decide)
    have d1 : f_X12_wants 1 M = some (nI (A 6 8)) := xm_wants hr hwf (l := 1) (by decide)
    have hpw := sp_pw (A 6 0) h7
    have e1 : nI (2 ^ A 6 0) - (1 : Int32) = nI (2 ^ A 6 0 - 1) := pk_sub (b := 1) hpw.2
    refine ⟨nI (sp_an (j &&& (2 ^ A 6 0 - 1)) (A 6 7 ||| A 6 8)), M, M, ?_, ?_, h⟩
    · simp only [f_X11_paper, b1, xc_bits hv hok, a0, a1, nx_and, nx_or, nx_andn, mt_b1E, mt_b2E, mt_ltE, mt_00, mt_10, nm1, nm2, nm3, nm4, nm6, if_true, if_false, mt_b2_eta]
    · simp only [f_X12_paper, b2, d0, d1, hr.1.1, nx_shl (show A 6 0 < 31 by omega), e1, nx_and, nx_andn, sp_an2, mt_b1E, mt_b2E, mt_ltE, mt_00, mt_10, nm1, nm2, nm3, nm4, nm6, if_true, if_false, mt_b2_eta]
theorem cl_skew (v : Int32) : ck (f_X11_skew v) (f_X12_skew v) := by
  intro M h
  obtain ⟨A, n, q, L, T, w, rr, hwf, hh, hr, hI, hH, hL, hW, hF⟩ := id h
  have hv : cv 13 M A := hh.2.2
  have hok := hwf.1
  have h7 := hok.1
  obtain ⟨r, b1, b2, hb⟩ : ∃ r, f_X11_outside v (-9) 9 = some r ∧ f_X12_bound v (-9) 9 = some r ∧ (r = -4 ∨ r = -6 ∨ r = 0) := by
    unfold f_X11_outside f_X12_bound
    by_cases q1 : -9 ≤ v
    · rw [if_pos q1]
      by_cases q2 : v ≤ 9
      · rw [if_pos q2]; exact ⟨0, rfl, rfl, Or.inr (Or.inr rfl)⟩
      · rw [if_neg q2]; exact ⟨-6, rfl, rfl, Or.inr (Or.inl rfl)⟩
    · rw [if_neg q1]; exact ⟨-4, rfl, rfl, Or.inl rfl⟩
  rcases hb with rfl | rfl | rfl
  · obtain ⟨M1, c1, c2, c3⟩ := rn_4 h
    obtain ⟨M2, d1, d0, d2⟩ := c3 M1 (fun _ _ => rfl)
    have hr1 : rm M1 A := rm_fr hr (fun id hid => c2 id (by omega))
    refine ⟨-4, M1, M2, ?_, ?_, d2⟩
    · simp only [f_X11_skew, b1, mt_b1E, mt_b2E, mt_ltE, mt_00, mt_10, nm1, nm2, nm3, nm4, nm6, if_true, if_false, mt_b2_eta]
      exact c1
    · simp only [f_X12_skew, b2, mt_b1E, mt_b2E, mt_ltE, mt_00, mt_10, nm1, nm2, nm3, nm4, nm6, if_true, if_false, mt_b2_eta]
      exact d1
  · obtain ⟨M1, c1, c2, c3⟩ := rn_6 h
    obtain ⟨M2, d1, d0, d2⟩ := c3 M1 (fun _ _ => rfl)
    have hr1 : rm M1 A := rm_fr hr (fun id hid => c2 id (by omega))
    refine ⟨-6, M1, M2, ?_, ?_, d2⟩
    · simp only [f_X11_skew, b1, mt_b1E, mt_b2E, mt_ltE, mt_00, mt_10, nm1, nm2, nm3, nm4, nm6, if_true, if_false, mt_b2_eta]
      exact c1
    · simp only [f_X12_skew, b2, mt_b1E, mt_b2E, mt_ltE, mt_00, mt_10, nm1, nm2, nm3, nm4, nm6, if_true, if_false, mt_b2_eta]
      exact d1
  · refine ⟨_, M, M, ?_, xm_skew hr hwf b2, h⟩
    simp only [f_X11_skew, b1, hc_later hh hwf, nx_xor, sp_mk_xor, mt_b1E, mt_b2E, mt_ltE, mt_00, mt_10, nm1, nm2, nm3, nm4, nm6, if_true, if_false, mt_b2_eta]
theorem cl_close (v : Int32) : ck (f_X11_close v) (f_X12_close v) := by
  intro M h
  obtain ⟨A, n, q, L, T, w, rr, hwf, hh, hr, hI, hH, hL, hW, hF⟩ := id h
  have hv : cv 13 M A := hh.2.2
  have hok := hwf.1
  have h7 := hok.1
  obtain ⟨r, b1, b2, hb⟩ := bo_c v (lo := 0) (hi := 9) 0 9 rfl rfl (by decide) (by decide)
  rcases hb with (rfl | rfl) | ⟨rfl, j, j1, j2, rfl⟩
  · obtain ⟨M1, c1, c2, c3⟩ := rn_4 h
    obtain ⟨M2, d1, d0, d2⟩ := c3 M1 (fun _ _ => rfl)
    have hr1 : rm M1 A := rm_fr hr (fun id hid => c2 id (by omega))
    refine ⟨-4, M1, M2, ?_, ?_, d2⟩
    · simp only [f_X11_close, b1, mt_b1E, mt_b2E, mt_ltE, mt_00, mt_10, nm1, nm2, nm3, nm4, nm6, if_true, if_false, mt_b2_eta]
      exact c1
    · simp only [f_X12_close, b2, mt_b1E, mt_b2E, mt_ltE, mt_00, mt_10, nm1, nm2, nm3, nm4, nm6, if_true, if_false, mt_b2_eta]
      exact d1
  · obtain ⟨M1, c1, c2, c3⟩ := rn_6 h
    obtain ⟨M2, d1, d0, d2⟩ := c3 M1 (fun _ _ => rfl)
    have hr1 : rm M1 A := rm_fr hr (fun id hid => c2 id (by omega))
    refine ⟨-6, M1, M2, ?_, ?_, d2⟩
    · simp only [f_X11_close, b1, mt_b1E, mt_b2E, mt_ltE, mt_00, mt_10, nm1, nm2, nm3, nm4, nm6, if_true, if_false, mt_b2_eta]
      exact c1
    · simp only [f_X12_close, b2, mt_b1E, mt_b2E, mt_ltE, mt_00, mt_10, nm1, nm2, nm3, nm4, nm6, if_true, if_false, mt_b2_eta]
      exact d1
  · refine ⟨_, M, M, ?_, xm_close hr hwf j2, h⟩
    simp only [f_X11_close, b1, hc_close hh hwf (show j ≤ 999 by omega), hc_never hh hwf, nx_andn, sp_mk_an, mt_b1E, mt_b2E, mt_ltE, mt_00, mt_10, nm1, nm2, nm3, nm4, nm6, if_true, if_false, mt_b2_eta]
    rfl
theorem cl_fridge (v u : Int32) : ck (f_X11_fridge v u) (f_X12_fridge v u) := by
  intro M h
  obtain ⟨A, n, q, L, T, w, rr, hwf, hh, hr, hI, hH, hL, hW, hF⟩ := id h
  have hv : cv 13 M A := hh.2.2
  have hok := hwf.1
  have h7 := hok.1
  obtain ⟨w1, w2, w3, w4, w5, w6⟩ := hW
  have hl1 := xf_lines (rr := rr) hv h7 w1 w2 w4 w6
  obtain ⟨r, b1, b2, hb⟩ := bo_c v (lo := 0) (hi := 99) 0 99 rfl rfl (by decide) (by decide)
  rcases hb with (rfl | rfl) | ⟨rfl, j, j1, j2, rfl⟩
  · obtain ⟨o, o1⟩ : ∃ o, f_X11_isOneOf u 1 = some o := ⟨_, xo_oneOf _ _⟩
    obtain ⟨M1, c1, c2, c3⟩ := rn_4 h
    obtain ⟨M2, d1, d0, d2⟩ := c3 M1 (fun _ _ => rfl)
    have hr1 : rm M1 A := rm_fr hr (fun id hid => c2 id (by omega))
    refine ⟨-4, M1, M2, ?_, ?_, d2⟩
    · simp only [f_X11_fridge, b1, o1, hl1, f_X11_firstOf, mt_b1E, mt_b2E, mt_ltE, mt_00, mt_10, nm1, nm2, nm3, nm4, nm6, if_true, if_false, mt_b2_eta]
      exact c1
    · simp only [f_X12_fridge, b2, mt_b1E, mt_b2E, mt_ltE, mt_00, mt_10, nm1, nm2, nm3, nm4, nm6, if_true, if_false, mt_b2_eta]
      exact d1
  · obtain ⟨o, o1⟩ : ∃ o, f_X11_isOneOf u 1 = some o := ⟨_, xo_oneOf _ _⟩
    obtain ⟨M1, c1, c2, c3⟩ := rn_6 h
    obtain ⟨M2, d1, d0, d2⟩ := c3 M1 (fun _ _ => rfl)
    have hr1 : rm M1 A := rm_fr hr (fun id hid => c2 id (by omega))
    refine ⟨-6, M1, M2, ?_, ?_, d2⟩
    · simp only [f_X11_fridge, b1, o1, hl1, f_X11_firstOf, mt_b1E, mt_b2E, mt_ltE, mt_00, mt_10, nm1, nm2, nm3, nm4, nm6, if_true, if_false, mt_b2_eta]
      exact c1
    · simp only [f_X12_fridge, b2, mt_b1E, mt_b2E, mt_ltE, mt_00, mt_10, nm1, nm2, nm3, nm4, nm6, if_true, if_false, mt_b2_eta]
      exact d1
  · rcases oo_c u (b := 1) 1 rfl (by decide) with ⟨o1, o2⟩ | ⟨o1, o2, i, i1, rfl⟩
    · obtain ⟨M1, c1, c2, c3⟩ := rn_2 h
      obtain ⟨M2, d1, d0, d2⟩ := c3 M1 (fun _ _ => rfl)
      have hr1 : rm M1 A := rm_fr hr (fun id hid => c2 id (by omega))
      refine ⟨-2, M1, M2, ?_, ?_, d2⟩
      · simp only [f_X11_fridge, b1, o1, hl1, f_X11_firstOf, mt_b1E, mt_b2E, mt_ltE, mt_00, mt_10, nm1, nm2, nm3, nm4, nm6, if_true, if_false, mt_b2_eta]
        exact c1
      · simp only [f_X12_fridge, b2, o2, mt_b1E, mt_b2E, mt_ltE, mt_00, mt_10, nm1, nm2, nm3, nm4, nm6, if_true, if_false, mt_b2_eta]
        exact d1
    · by_cases hg : sp_ga A rr w = true
      · exact ⟨_, M, M, xf_fridge hv h7 w1 w2 w4 w6 hg j2 i1, xm_fridge hr h7 w1 w3 w5 w6 hg j2 i1, h⟩
      · have hgf : sp_ga A rr w = false := by simpa using hg
        have z : (if sp_ga A rr w = true then (1 : Int32) else 0) = 0 := if_neg hg
        rw [z] at hl1
        obtain ⟨M1, c1, c2, c3⟩ := rn_3 h
        obtain ⟨M2, d1, d0, d2⟩ := c3 M1 (fun _ _ => rfl)
        have hr1 : rm M1 A := rm_fr hr (fun id hid => c2 id (by omega))
        have hl2 := xm_goings (rr := rr) (n := w) hr1 h7 w1 (by rw [c2 147 (by decide)]; exact w3) (fun k hk => by rw [c2 162 (by decide)]; exact w5 k hk) w6
        rw [z] at hl2
        refine ⟨-3, M1, M2, ?_, ?_, d2⟩
        · simp only [f_X11_fridge, b1, o1, hl1, f_X11_firstOf, mt_b1E, mt_b2E, mt_ltE, mt_00, mt_10, nm1, nm2, nm3, nm4, nm6, if_true, if_false, mt_b2_eta]
          exact c1
        · simp only [f_X12_fridge, b2, o2, hl2, mt_b1E, mt_b2E, mt_ltE, mt_00, mt_10, nm1, nm2, nm3, nm4, nm6, if_true, if_false, mt_b2_eta]
          exact d1
theorem xm_biscuitsNo {M : mt_M} {u : Int32} (o2 : f_X12_isIn u 0 1 = some 0) : ∃ M', f_X12_biscuits u M = f_X12_no (-2) M' ∧ ∀ id, id ≠ 163 → M' id = M id := by
  simp only [f_X12_biscuits, o2, mt_b1E, mt_ltE, if_true, mt_b2_eta]
  refine mt_lz2 (P := fun (r : Option (Int32 × mt_M)) => ∃ M' : mt_M, r = f_X12_no (-2) M' ∧ ∀ id, id ≠ 163 → M' id = M id) (fun i (x : Int32) (m : mt_M) => x = nI i ∧ ∀ id, id ≠ 163 → m id = M id) 7 (by decide) ?_ ?_ ⟨rfl, fun _ _ => rfl⟩
  · rintro i hi x m ⟨rfl, hf⟩ k
    left
    have i1 : vp_in (nI i) 7 := vp_in_nI (by omega) (by omega)
    refine ⟨nI (i + 1), mt_wr m 163 (nI i).toNatClampNeg 0, ⟨rfl, fun id hid => (mt_wr_ne hid).trans (hf id hid)⟩, ?_⟩
    rw [mi_7, if_neg (nI_ge hi (by omega)), mt_ci_t i1, nI_1]
  · rintro x m ⟨rfl, hf⟩ k
    rw [mi_7, if_pos (nI_le (Nat.le_refl _) (by omega))]
    refine mt_lz3 (P := fun (r : Option (Int32 × mt_M)) => ∃ M' : mt_M, r = f_X12_no (-2) M' ∧ ∀ id, id ≠ 163 → M' id = M id) (fun i (x : Int32) (y : Int32) (m' : mt_M) => x = -2 ∧ m' = m) 0 (by decide) (fun i hi => by omega) ?_ ⟨rfl, rfl⟩
    rintro x y m' ⟨rfl, rfl⟩ k2
    have e : ∀ B C : Option (Int32 × mt_M), (if m' 147 27 ≤ y then B else if (-2 : Int32) = 0 then C else B) = B := fun B C => by
      rw [if_neg (show ¬ (-2 : Int32) = 0 by decide)]
      split <;> rfl
    refine ⟨m', ?_, hf⟩
    refine (e _ _).trans ?_
    rw [if_neg (by decide)]
theorem cl_biscuits (u : Int32) : ck (f_X11_biscuits u) (f_X12_biscuits u) := by
  intro M h
  obtain ⟨A, n, q, L, T, w, rr, hwf, hh, hr, hI, hH, hL, hW, hF⟩ := id h
  have hv : cv 13 M A := hh.2.2
  have hok := hwf.1
  have h7 := hok.1
  obtain ⟨w1, w2, w3, w4, w5, w6⟩ := hW
  rcases oo_c u (b := 1) 1 rfl (by decide) with ⟨o1, o2⟩ | ⟨o1, o2, i, i1, rfl⟩
  · obtain ⟨M1, c1, c2, c3⟩ := rn_2 h
    obtain ⟨M1', k1, k2⟩ := xm_biscuitsNo (M := M1) o2
    obtain ⟨M2, d1, d0, d2⟩ := c3 M1' k2
    refine ⟨-2, M1, M2, ?_, k1.trans d1, d2⟩
    simp only [f_X11_biscuits, o1, mt_b1E, mt_b2E, mt_ltE, mt_00, mt_10, nm1, nm2, nm3, nm4, nm6, if_true, if_false, mt_b2_eta]
    exact c1
  · have e1 := xf_biscuits (rr := rr) (n := w) hv h7 w1 w2 w4 w6 i1
    by_cases hg : sp_av (bi_k A rr) w = true
    · obtain ⟨M2, k1, k2⟩ := xm_biscuits (rr := rr) (n := w) hr h7 w1 w3 w5 w6 i1
      rw [if_pos hg] at e1 k1
      refine ⟨_, M, M2, e1, k1, rl_eq h (fun id _ _ _ => k2 id (by omega)) (fun id _ => k2 id (by omega)) (fun j hj => ?_) (fun j _ => by rw [k2 160 (by decide)]) (fun id k _ => by rw [k2 id (by omega)]) (fun k _ => by rw [k2 147 (by decide)]) (fun k hk => by rw [k2 2 (by decide), k2 148 (by decide)]; exact hF k hk)⟩
      unfold rf
      rw [k2 149 (by decide), k2 150 (by decide), k2 151 (by decide), k2 152 (by decide), k2 153 (by decide), k2 154 (by decide), k2 155 (by decide), k2 147 (by decide)]
    · obtain ⟨M1, c1, c2, c3⟩ := rn_3 h
      have hr1 : rm M1 A := rm_fr hr (fun id hid => c2 id (by omega))
      obtain ⟨M1', k1, k2⟩ := xm_biscuits (rr := rr) (n := w) hr1 h7 w1 (by rw [c2 147 (by decide)]; exact w3) (fun k hk => by rw [c2 162 (by decide)]; exact w5 k hk) w6 i1
      rw [if_neg hg] at e1 k1
      obtain ⟨M2, d1, d0, d2⟩ := c3 M1' k2
      exact ⟨-3, M1, M2, e1.trans c1, k1.trans d1, d2⟩
theorem cl_cheapest (a b : Int32) : ck (f_X11_cheapest a b) (f_X12_cheapest a b) := by
  intro M h
  obtain ⟨A, n, q, L, T, w, rr, hwf, hh, hr, hI, hH, hL, hW, hF⟩ := id h
  have hv : cv 13 M A := hh.2.2
  have hok := hwf.1
  have h7 := hok.1
  by_cases z1 : a < 0
  · obtain ⟨M1, c1, c2, c3⟩ := rn_4 h
    obtain ⟨M2, d1, d0, d2⟩ := c3 M1 (fun _ _ => rfl)
    have hr1 : rm M1 A := rm_fr hr (fun id hid => c2 id (by omega))
    refine ⟨-4, M1, M2, ?_, ?_, d2⟩
    · simp only [f_X11_cheapest, if_pos z1, mt_b1E, mt_b2E, mt_ltE, mt_00, mt_10, nm1, nm2, nm3, nm4, nm6, if_true, if_false, mt_b2_eta]
      exact c1
    · simp only [f_X12_cheapest, if_pos z1, mt_b1E, mt_b2E, mt_ltE, mt_00, mt_10, nm1, nm2, nm3, nm4, nm6, if_true, if_false, mt_b2_eta]
      exact d1
  · by_cases z2 : 1 ≤ b
    · by_cases z3 : 7 < a
      · obtain ⟨M1, c1, c2, c3⟩ := rn_6 h
        obtain ⟨M2, d1, d0, d2⟩ := c3 M1 (fun _ _ => rfl)
        have hr1 : rm M1 A := rm_fr hr (fun id hid => c2 id (by omega))
        refine ⟨-6, M1, M2, ?_, ?_, d2⟩
        · simp only [f_X11_cheapest, if_neg z1, if_pos z2, if_pos z3, mt_b1E, mt_b2E, mt_ltE, mt_00, mt_10, nm1, nm2, nm3, nm4, nm6, if_true, if_false, mt_b2_eta]
          exact c1
        · simp only [f_X12_cheapest, if_neg z1, if_pos z2, if_pos z3, mt_b1E, mt_b2E, mt_ltE, mt_00, mt_10, nm1, nm2, nm3, nm4, nm6, if_true, if_false, mt_b2_eta]
          exact d1
      · by_cases z4 : b ≤ 30
        · obtain ⟨j, hj, rfl⟩ := nI_of z1
          obtain ⟨i, hi, rfl⟩ := nI_of (show ¬ b < 0 from fun q => absurd (Int32.lt_of_le_of_lt z2 q) (by decide))
          have j7 : j ≤ 7 := Nat.not_lt.mp fun q => z3 (nI_lt q hj)
          have i1 : 1 ≤ i := (nI_leI (a := 1) (by decide) hi).mp z2
          have i30 : i ≤ 30 := (nI_leI (b := 30) hi (by decide)).mp z4
          obtain ⟨M16, c1, cw, c2⟩ := xn_note hv hok (n := i) (by omega)
          have hv1 : cv 13 M16 A := c2.cv hv
          obtain ⟨M1, k1, k2⟩ := xn_fewest (f := sp_co A i) hv1 h7 cw (fun t ht v hv => sp_co_le hok ht hv) j7
          have c3 := c2.trans k2
          have hr1 : rm M1 A := rm_fr hr (fun id hid => c3 id (by omega))
          obtain ⟨M2, d1, d2⟩ := xr_cheapest hr1 hok i1 i30 j7
          refine ⟨_, M1, M2, ?_, d1, rl_q h (fun id _ h' => c3 id h') d2.mq1⟩
          simp only [f_X11_cheapest, if_neg z1, if_pos z2, if_neg z3, if_pos z4, c1, mt_b1E, mt_b2E, mt_ltE, mt_00, mt_10, nm1, nm2, nm3, nm4, nm6, if_true, if_false, mt_b2_eta]
          exact k1
        · obtain ⟨M1, c1, c2, c3⟩ := rn_6 h
          obtain ⟨M2, d1, d0, d2⟩ := c3 M1 (fun _ _ => rfl)
          have hr1 : rm M1 A := rm_fr hr (fun id hid => c2 id (by omega))
          refine ⟨-6, M1, M2, ?_, ?_, d2⟩
          · simp only [f_X11_cheapest, if_neg z1, if_pos z2, if_neg z3, if_neg z4, mt_b1E, mt_b2E, mt_ltE, mt_00, mt_10, nm1, nm2, nm3, nm4, nm6, if_true, if_false, mt_b2_eta]
            exact c1
          · simp only [f_X12_cheapest, if_neg z1, if_pos z2, if_neg z3, if_neg z4, mt_b1E, mt_b2E, mt_ltE, mt_00, mt_10, nm1, nm2, nm3, nm4, nm6, if_true, if_false, mt_b2_eta]
            exact d1
    · obtain ⟨M1, c1, c2, c3⟩ := rn_4 h
      obtain ⟨M2, d1, d0, d2⟩ := c3 M1 (fun _ _ => rfl)
      have hr1 : rm M1 A := rm_fr hr (fun id hid => c2 id (by omega))
      refine ⟨-4, M1, M2, ?_, ?_, d2⟩
      · simp only [f_X11_cheapest, if_neg z1, if_neg z2, mt_b1E, mt_b2E, mt_ltE, mt_00, mt_10, nm1, nm2, nm3, nm4, nm6, if_true, if_false, mt_b2_eta]
        exact c1
      · simp only [f_X12_cheapest, if_neg z1, if_neg z2, mt_b1E, mt_b2E, mt_ltE, mt_00, mt_10, nm1, nm2, nm3, nm4, nm6, if_true, if_false, mt_b2_eta]
        exact d1

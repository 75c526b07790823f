/-! THE CALLS, ONE BY ONE: questions -/
theorem cl_stockIn (t v : Int32) : ck (f_X11_stockIn t v) (f_X12_stockIn t v) := by
  intro M h
  obtain ⟨A, n, q, L, T, w, rr, hwf, hh, hr, hI, hH, hL, hW, hF⟩ := id h
  have hv : cv 13 M A := hh.2.2
  have hok := hwf.1
  have h7 := hok.1
  rcases th_c h7 hv hr t with ⟨e1, e0⟩ | ⟨x, hx, rfl⟩
  · obtain ⟨M1, c1, c2, c3⟩ := rn_1 h
    obtain ⟨M2, d1, d0, d2⟩ := c3 M1 (fun _ _ => rfl)
    have hr1 : rm M1 A := rm_fr hr (fun id hid => c2 id (by omega))
    have e2 : f_X12_isThing t M1 = some 0 := by
      unfold f_X12_isThing at e0 ⊢
      rw [c2 147 (by decide)]
      exact e0
    refine ⟨-1, M1, M2, ?_, ?_, d2⟩
    · simp only [f_X11_stockIn, f_X11_refusalOf, e1, mt_b1E, mt_b2E, mt_ltE, mt_00, mt_10, nm1, nm2, nm3, nm4, nm6, if_true, if_false, mt_b2_eta]
      exact c1
    · simp only [f_X12_stockIn, e2, mt_b1E, mt_b2E, mt_ltE, mt_00, mt_10, nm1, nm2, nm3, nm4, nm6, if_true, if_false, mt_b2_eta]
      exact d1
  · obtain ⟨r, b1, b2, hb⟩ := bo_c v (lo := 0) (hi := 60) 0 60 rfl rfl (by decide) (by decide)
    rcases hb with (rfl | rfl) | ⟨rfl, j, j1, j2, rfl⟩
    · obtain ⟨M1, c1, c2, c3⟩ := rn_4 h
      obtain ⟨M2, d1, d0, d2⟩ := c3 M1 (fun _ _ => rfl)
      have hr1 : rm M1 A := rm_fr hr (fun id hid => c2 id (by omega))
      have e1 := xc_hasT hv h7 hx
      have e2 := xm_isT hr1 h7 hx
      refine ⟨-4, M1, M2, ?_, ?_, d2⟩
      · simp only [f_X11_stockIn, f_X11_refusalOf, e1, b1, mt_b1E, mt_b2E, mt_ltE, mt_00, mt_10, nm1, nm2, nm3, nm4, nm6, if_true, if_false, mt_b2_eta]
        exact c1
      · simp only [f_X12_stockIn, f_X12_notDays, e2, b2, mt_b1E, mt_b2E, mt_ltE, mt_00, mt_10, nm1, nm2, nm3, nm4, nm6, if_true, if_false, mt_b2_eta]
        exact d1
    · obtain ⟨M1, c1, c2, c3⟩ := rn_6 h
      obtain ⟨M2, d1, d0, d2⟩ := c3 M1 (fun _ _ => rfl)
      have hr1 : rm M1 A := rm_fr hr (fun id hid => c2 id (by omega))
      have e1 := xc_hasT hv h7 hx
      have e2 := xm_isT hr1 h7 hx
      refine ⟨-6, M1, M2, ?_, ?_, d2⟩
      · simp only [f_X11_stockIn, f_X11_refusalOf, e1, b1, mt_b1E, mt_b2E, mt_ltE, mt_00, mt_10, nm1, nm2, nm3, nm4, nm6, if_true, if_false, mt_b2_eta]
        exact c1
      · simp only [f_X12_stockIn, f_X12_notDays, e2, b2, mt_b1E, mt_b2E, mt_ltE, mt_00, mt_10, nm1, nm2, nm3, nm4, nm6, if_true, if_false, mt_b2_eta]
        exact d1
    · have e1 := xc_hasT hv h7 hx
      obtain ⟨M1, c1, c2⟩ := xn_stockBehind hv hok hx (n := j) (by omega)
      have hr1 : rm M1 A := rm_fr hr (fun id hid => c2 id (by omega))
      obtain ⟨M2, d1, d2⟩ := xr_stockIn hr1 hok hx j2
      refine ⟨_, M1, M2, ?_, d1, rl_q h (fun id _ h' => c2 id h') d2.mq1⟩
      simp only [f_X11_stockIn, f_X11_refusalOf, e1, b1, mt_b1E, mt_b2E, mt_ltE, mt_00, mt_10, nm1, nm2, nm3, nm4, nm6, if_true, if_false, mt_b2_eta]
      exact c1
theorem cl_needs (t v : Int32) : ck (f_X11_needs t v) (f_X12_needs t v) := by
  intro M h
  obtain ⟨A, n, q, L, T, w, rr, hwf, hh, hr, hI, hH, hL, hW, hF⟩ := id h
  have hv : cv 13 M A := hh.2.2
  have hok := hwf.1
  have h7 := hok.1
  rcases th_c h7 hv hr t with ⟨e1, e0⟩ | ⟨x, hx, rfl⟩
  · obtain ⟨M1, c1, c2, c3⟩ := rn_1 h
    obtain ⟨M2, d1, d0, d2⟩ := c3 M1 (fun _ _ => rfl)
    have hr1 : rm M1 A := rm_fr hr (fun id hid => c2 id (by omega))
    have e2 : f_X12_isThing t M1 = some 0 := by
      unfold f_X12_isThing at e0 ⊢
      rw [c2 147 (by decide)]
      exact e0
    refine ⟨-1, M1, M2, ?_, ?_, d2⟩
    · simp only [f_X11_needs, f_X11_refusalOf, e1, mt_b1E, mt_b2E, mt_ltE, mt_00, mt_10, nm1, nm2, nm3, nm4, nm6, if_true, if_false, mt_b2_eta]
      exact c1
    · simp only [f_X12_needs, e2, mt_b1E, mt_b2E, mt_ltE, mt_00, mt_10, nm1, nm2, nm3, nm4, nm6, if_true, if_false, mt_b2_eta]
      exact d1
  · obtain ⟨r, b1, b2, hb⟩ := bo_c v (lo := 1) (hi := 30) 1 30 rfl rfl (by decide) (by decide)
    rcases hb with (rfl | rfl) | ⟨rfl, j, j1, j2, rfl⟩
    · obtain ⟨M1, c1, c2, c3⟩ := rn_4 h
      obtain ⟨M2, d1, d0, d2⟩ := c3 M1 (fun _ _ => rfl)
      have hr1 : rm M1 A := rm_fr hr (fun id hid => c2 id (by omega))
      have e1 := xc_hasT hv h7 hx
      have e2 := xm_isT hr1 h7 hx
      refine ⟨-4, M1, M2, ?_, ?_, d2⟩
      · simp only [f_X11_needs, f_X11_refusalOf, e1, b1, mt_b1E, mt_b2E, mt_ltE, mt_00, mt_10, nm1, nm2, nm3, nm4, nm6, if_true, if_false, mt_b2_eta]
        exact c1
      · simp only [f_X12_needs, f_X12_notMonth, e2, b2, mt_b1E, mt_b2E, mt_ltE, mt_00, mt_10, nm1, nm2, nm3, nm4, nm6, if_true, if_false, mt_b2_eta]
        exact d1
    · obtain ⟨M1, c1, c2, c3⟩ := rn_6 h
      obtain ⟨M2, d1, d0, d2⟩ := c3 M1 (fun _ _ => rfl)
      have hr1 : rm M1 A := rm_fr hr (fun id hid => c2 id (by omega))
      have e1 := xc_hasT hv h7 hx
      have e2 := xm_isT hr1 h7 hx
      refine ⟨-6, M1, M2, ?_, ?_, d2⟩
      · simp only [f_X11_needs, f_X11_refusalOf, e1, b1, mt_b1E, mt_b2E, mt_ltE, mt_00, mt_10, nm1, nm2, nm3, nm4, nm6, if_true, if_false, mt_b2_eta]
        exact c1
      · simp only [f_X12_needs, f_X12_notMonth, e2, b2, mt_b1E, mt_b2E, mt_ltE, mt_00, mt_10, nm1, nm2, nm3, nm4, nm6, if_true, if_false, mt_b2_eta]
        exact d1
    · have e1 := xc_hasT hv h7 hx
      obtain ⟨M1, c1, c2⟩ := xn_needs hv hok hx (n := j) (by omega)
      have hr1 : rm M1 A := rm_fr hr (fun id hid => c2 id (by omega))
      obtain ⟨M2, d1, d2⟩ := xr_needs hr1 hok hx j1 j2
      refine ⟨_, M1, M2, ?_, d1, rl_q h (fun id _ h' => c2 id h') d2.mq1⟩
      simp only [f_X11_needs, f_X11_refusalOf, e1, b1, mt_b1E, mt_b2E, mt_ltE, mt_00, mt_10, nm1, nm2, nm3, nm4, nm6, if_true, if_false, mt_b2_eta]
      exact c1
theorem cl_noWaste (t v : Int32) : ck (f_X11_noWaste t v) (f_X12_noWaste t v) := by
  intro M h
  obtain ⟨A, n, q, L, T, w, rr, hwf, hh, hr, hI, hH, hL, hW, hF⟩ := id h
  have hv : cv 13 M A := hh.2.2
  have hok := hwf.1
  have h7 := hok.1
  rcases th_c h7 hv hr t with ⟨e1, e0⟩ | ⟨x, hx, rfl⟩
  · obtain ⟨M1, c1, c2, c3⟩ := rn_1 h
    obtain ⟨M2, d1, d0, d2⟩ := c3 M1 (fun _ _ => rfl)
    have hr1 : rm M1 A := rm_fr hr (fun id hid => c2 id (by omega))
    have e2 : f_X12_isThing t M1 = some 0 := by
      unfold f_X12_isThing at e0 ⊢
      rw [c2 147 (by decide)]
      exact e0
    refine ⟨-1, M1, M2, ?_, ?_, d2⟩
    · simp only [f_X11_noWaste, f_X11_refusalOf, e1, mt_b1E, mt_b2E, mt_ltE, mt_00, mt_10, nm1, nm2, nm3, nm4, nm6, if_true, if_false, mt_b2_eta]
      exact c1
    · simp only [f_X12_noWaste, e2, mt_b1E, mt_b2E, mt_ltE, mt_00, mt_10, nm1, nm2, nm3, nm4, nm6, if_true, if_false, mt_b2_eta]
      exact d1
  · obtain ⟨r, b1, b2, hb⟩ := bo_c v (lo := 1) (hi := 30) 1 30 rfl rfl (by decide) (by decide)
    rcases hb with (rfl | rfl) | ⟨rfl, j, j1, j2, rfl⟩
    · obtain ⟨M1, c1, c2, c3⟩ := rn_4 h
      obtain ⟨M2, d1, d0, d2⟩ := c3 M1 (fun _ _ => rfl)
      have hr1 : rm M1 A := rm_fr hr (fun id hid => c2 id (by omega))
      have e1 := xc_hasT hv h7 hx
      have e2 := xm_isT hr1 h7 hx
      refine ⟨-4, M1, M2, ?_, ?_, d2⟩
      · simp only [f_X11_noWaste, f_X11_refusalOf, e1, b1, mt_b1E, mt_b2E, mt_ltE, mt_00, mt_10, nm1, nm2, nm3, nm4, nm6, if_true, if_false, mt_b2_eta]
        exact c1
      · simp only [f_X12_noWaste, f_X12_notMonth, e2, b2, mt_b1E, mt_b2E, mt_ltE, mt_00, mt_10, nm1, nm2, nm3, nm4, nm6, if_true, if_false, mt_b2_eta]
        exact d1
    · obtain ⟨M1, c1, c2, c3⟩ := rn_6 h
      obtain ⟨M2, d1, d0, d2⟩ := c3 M1 (fun _ _ => rfl)
      have hr1 : rm M1 A := rm_fr hr (fun id hid => c2 id (by omega))
      have e1 := xc_hasT hv h7 hx
      have e2 := xm_isT hr1 h7 hx
      refine ⟨-6, M1, M2, ?_, ?_, d2⟩
      · simp only [f_X11_noWaste, f_X11_refusalOf, e1, b1, mt_b1E, mt_b2E, mt_ltE, mt_00, mt_10, nm1, nm2, nm3, nm4, nm6, if_true, if_false, mt_b2_eta]
        exact c1
      · simp only [f_X12_noWaste, f_X12_notMonth, e2, b2, mt_b1E, mt_b2E, mt_ltE, mt_00, mt_10, nm1, nm2, nm3, nm4, nm6, if_true, if_false, mt_b2_eta]
        exact d1
    · have e1 := xc_hasT hv h7 hx
      obtain ⟨M1, c1, c2⟩ := xn_noWaste hv hok hx (n := j) (by omega)
      have hr1 : rm M1 A := rm_fr hr (fun id hid => c2 id (by omega))
      obtain ⟨M2, d1, d2⟩ := xr_noWaste hr1 hok hwf.tb hx j1 j2
      refine ⟨_, M1, M2, ?_, d1, rl_q h (fun id _ h' => c2 id h') d2.mq1⟩
      simp only [f_X11_noWaste, f_X11_refusalOf, e1, b1, mt_b1E, mt_b2E, mt_ltE, mt_00, mt_10, nm1, nm2, nm3, nm4, nm6, if_true, if_false, mt_b2_eta]
      exact c1
theorem cl_runsOut (t : Int32) : ck (f_X11_runsOut t) (f_X12_runsOut t) := by
  intro M h
  obtain ⟨A, n, q, L, T, w, rr, hwf, hh, hr, hI, hH, hL, hW, hF⟩ := id h
  have hv : cv 13 M A := hh.2.2
  have hok := hwf.1
  have h7 := hok.1
  rcases th_c h7 hv hr t with ⟨e1, e0⟩ | ⟨x, hx, rfl⟩
  · obtain ⟨M1, c1, c2, c3⟩ := rn_1 h
    obtain ⟨M2, d1, d0, d2⟩ := c3 M1 (fun _ _ => rfl)
    have hr1 : rm M1 A := rm_fr hr (fun id hid => c2 id (by omega))
    have e2 : f_X12_isThing t M1 = some 0 := by
      unfold f_X12_isThing at e0 ⊢
      rw [c2 147 (by decide)]
      exact e0
    refine ⟨-1, M1, M2, ?_, ?_, d2⟩
    · simp only [f_X11_runsOut, e1, mt_b1E, mt_b2E, mt_ltE, mt_00, mt_10, nm1, nm2, nm3, nm4, nm6, if_true, if_false, mt_b2_eta]
      exact c1
    · simp only [f_X12_runsOut, e2, mt_b1E, mt_b2E, mt_ltE, mt_00, mt_10, nm1, nm2, nm3, nm4, nm6, if_true, if_false, mt_b2_eta]
      exact d1
  · have e1 := xc_hasT hv h7 hx
    obtain ⟨M1, c1, c2⟩ := xn_first hv hok hx
    have hr1 : rm M1 A := rm_fr hr (fun id hid => c2 id (by omega))
    obtain ⟨M2, d1, d2⟩ := xr_runsOut hr1 hok hx
    refine ⟨_, M1, M2, ?_, d1, rl_q h (fun id _ h' => c2 id h') d2.mq1⟩
    simp only [f_X11_runsOut, e1, mt_b1E, mt_b2E, mt_ltE, mt_00, mt_10, nm1, nm2, nm3, nm4, nm6, if_true, if_false, mt_b2_eta]
    exact c1
theorem cl_game (t : Int32) : ck (f_X11_game t) (f_X12_game t) := by
  intro M h
  obtain ⟨A, n, q, L, T, w, rr, hwf, hh, hr, hI, hH, hL, hW, hF⟩ := id h
  have hv : cv 13 M A := hh.2.2
  have hok := hwf.1
  have h7 := hok.1
  rcases th_c h7 hv hr t with ⟨e1, e0⟩ | ⟨x, hx, rfl⟩
  · obtain ⟨M1, c1, c2, c3⟩ := rn_1 h
    obtain ⟨M2, d1, d0, d2⟩ := c3 M1 (fun _ _ => rfl)
    have hr1 : rm M1 A := rm_fr hr (fun id hid => c2 id (by omega))
    have e2 : f_X12_isThing t M1 = some 0 := by
      unfold f_X12_isThing at e0 ⊢
      rw [c2 147 (by decide)]
      exact e0
    refine ⟨-1, M1, M2, ?_, ?_, d2⟩
    · simp only [f_X11_game, e1, mt_b1E, mt_b2E, mt_ltE, mt_00, mt_10, nm1, nm2, nm3, nm4, nm6, if_true, if_false, mt_b2_eta]
      exact c1
    · simp only [f_X12_game, e2, mt_b1E, mt_b2E, mt_ltE, mt_00, mt_10, nm1, nm2, nm3, nm4, nm6, if_true, if_false, mt_b2_eta]
      exact d1
  · exact ⟨_, M, M, xu_game hv hok hx, xm_game hr hok hx, h⟩
theorem cl_firstOut : ck f_X11_firstOut f_X12_firstOut := by
  intro M h
  obtain ⟨A, n, q, L, T, w, rr, hwf, hh, hr, hI, hH, hL, hW, hF⟩ := id h
  have hv : cv 13 M A := hh.2.2
  have hok := hwf.1
  have h7 := hok.1
  obtain ⟨M1, c1, c2⟩ := xn_firstOut hv hok
  have hr1 : rm M1 A := rm_fr hr (fun id hid => c2 id (by omega))
  obtain ⟨M2, d1, d2⟩ := xr_firstOut hr1 hok
  refine ⟨_, M1, M2, ?_, d1, rl_q h (fun id _ h' => c2 id h') d2.mq1⟩
  simp only [f_X11_firstOut, mt_b1E, mt_b2E, mt_ltE, mt_00, mt_10, nm1, nm2, nm3, nm4, nm6, if_true, if_false, mt_b2_eta]
  exact c1
theorem cl_month : ck f_X11_month f_X12_month := by
  intro M h
  obtain ⟨A, n, q, L, T, w, rr, hwf, hh, hr, hI, hH, hL, hW, hF⟩ := id h
  have hv : cv 13 M A := hh.2.2
  have hok := hwf.1
  have h7 := hok.1
  obtain ⟨M1, c1, c2⟩ := xn_month hv hok
  have hr1 : rm M1 A := rm_fr hr (fun id hid => c2 id (by omega))
  obtain ⟨M2, d1, d2⟩ := xr_month hr1 hok
  refine ⟨_, M1, M2, ?_, d1, rl_q h (fun id _ h' => c2 id h') d2.mq1⟩
  simp only [f_X11_month, mt_b1E, mt_b2E, mt_ltE, mt_00, mt_10, nm1, nm2, nm3, nm4, nm6, if_true, if_false, mt_b2_eta]
  exact c1
theorem cl_swap : ck f_X11_swap f_X12_swap := by
  intro M h
  obtain ⟨A, n, q, L, T, w, rr, hwf, hh, hr, hI, hH, hL, hW, hF⟩ := id h
  have hv : cv 13 M A := hh.2.2
  have hok := hwf.1
  have h7 := hok.1
  obtain ⟨M1, c1, c2⟩ := xn_swap hv hok
  have hr1 : rm M1 A := rm_fr hr (fun id hid => c2 id (by omega))
  obtain ⟨M2, d1, d2⟩ := xr_swap hr1 hok
  refine ⟨_, M1, M2, ?_, d1, rl_q h (fun id _ h' => c2 id h') d2.mq1⟩
  simp only [f_X11_swap, mt_b1E, mt_b2E, mt_ltE, mt_00, mt_10, nm1, nm2, nm3, nm4, nm6, if_true, if_false, mt_b2_eta]
  exact c1
theorem cl_interval (v : Int32) : ck (f_X11_interval v) (f_X12_interval v) := by
  intro M h
  obtain ⟨A, n, q, L, T, w, rr, hwf, hh, hr, hI, hH, hL, hW, hF⟩ := id h
  have hv : cv 13 M A := hh.2.2
  have hok := hwf.1
  have h7 := hok.1
  obtain ⟨r, b1, b2, hb⟩ := bo_c v (lo := 1) (hi := 9) 1 9 rfl rfl (by decide) (by decide)
  rcases hb with (rfl | rfl) | ⟨rfl, j, j1, j2, rfl⟩
  · obtain ⟨M1, c1, c2, c3⟩ := rn_4 h
    obtain ⟨M2, d1, d0, d2⟩ := c3 M1 (fun _ _ => rfl)
    have hr1 : rm M1 A := rm_fr hr (fun id hid => c2 id (by omega))
    refine ⟨-4, M1, M2, ?_, ?_, d2⟩
    · simp only [f_X11_interval, b1, mt_b1E, mt_b2E, mt_ltE, mt_00, mt_10, nm1, nm2, nm3, nm4, nm6, if_true, if_false, mt_b2_eta]
      exact c1
    · simp only [f_X12_interval, b2, mt_b1E, mt_b2E, mt_ltE, mt_00, mt_10, nm1, nm2, nm3, nm4, nm6, if_true, if_false, mt_b2_eta]
      exact d1
  · obtain ⟨M1, c1, c2, c3⟩ := rn_6 h
    obtain ⟨M2, d1, d0, d2⟩ := c3 M1 (fun _ _ => rfl)
    have hr1 : rm M1 A := rm_fr hr (fun id hid => c2 id (by omega))
    refine ⟨-6, M1, M2, ?_, ?_, d2⟩
    · simp only [f_X11_interval, b1, mt_b1E, mt_b2E, mt_ltE, mt_00, mt_10, nm1, nm2, nm3, nm4, nm6, if_true, if_false, mt_b2_eta]
      exact c1
    · simp only [f_X12_interval, b2, mt_b1E, mt_b2E, mt_ltE, mt_00, mt_10, nm1, nm2, nm3, nm4, nm6, if_true, if_false, mt_b2_eta]
      exact d1
  · obtain ⟨M1, c1, c2⟩ := xn_interval hv hok (k := j) (by omega)
    have hr1 : rm M1 A := rm_fr hr (fun id hid => c2 id (by omega))
    obtain ⟨M2, d1, d2⟩ := xr_interval hr1 hok hwf.tb j1 j2
    refine ⟨_, M1, M2, ?_, d1, rl_q h (fun id _ h' => c2 id h') d2.mq1⟩
    simp only [f_X11_interval, b1, mt_b1E, mt_b2E, mt_ltE, mt_00, mt_10, nm1, nm2, nm3, nm4, nm6, if_true, if_false, mt_b2_eta]
    exact c1
theorem cl_lasts (v : Int32) : ck (f_X11_lasts v) (f_X12_lasts v) := by
  intro M h
  obtain ⟨A, n, q, L, T, w, rr, hwf, hh, hr, hI, hH, hL, hW, hF⟩ := id h
  have hv : cv 13 M A := hh.2.2
  have hok := hwf.1
  have h7 := hok.1
  obtain ⟨r, b1, b2, hb⟩ := bo_c v (lo := 1) (hi := 7) 1 7 rfl rfl (by decide) (by decide)
  rcases hb with (rfl | rfl) | ⟨rfl, j, j1, j2, rfl⟩
  · obtain ⟨M1, c1, c2, c3⟩ := rn_4 h
    obtain ⟨M2, d1, d0, d2⟩ := c3 M1 (fun _ _ => rfl)
    have hr1 : rm M1 A := rm_fr hr (fun id hid => c2 id (by omega))
    refine ⟨-4, M1, M2, ?_, ?_, d2⟩
    · simp only [f_X11_lasts, b1, mt_b1E, mt_b2E, mt_ltE, mt_00, mt_10, nm1, nm2, nm3, nm4, nm6, if_true, if_false, mt_b2_eta]
      exact c1
    · simp only [f_X12_lasts, b2, mt_b1E, mt_b2E, mt_ltE, mt_00, mt_10, nm1, nm2, nm3, nm4, nm6, if_true, if_false, mt_b2_eta]
      exact d1
  · obtain ⟨M1, c1, c2, c3⟩ := rn_6 h
    obtain ⟨M2, d1, d0, d2⟩ := c3 M1 (fun _ _ => rfl)
    have hr1 : rm M1 A := rm_fr hr (fun id hid => c2 id (by omega))
    refine ⟨-6, M1, M2, ?_, ?_, d2⟩
    · simp only [f_X11_lasts, b1, mt_b1E, mt_b2E, mt_ltE, mt_00, mt_10, nm1, nm2, nm3, nm4, nm6, if_true, if_false, mt_b2_eta]
      exact c1
    · simp only [f_X12_lasts, b2, mt_b1E, mt_b2E, mt_ltE, mt_00, mt_10, nm1, nm2, nm3, nm4, nm6, if_true, if_false, mt_b2_eta]
      exact d1
  · obtain ⟨M1, c1, c2⟩ := xn_lasts hv hok (k := j) (by omega)
    have hr1 : rm M1 A := rm_fr hr (fun id hid => c2 id (by omega))
    obtain ⟨M2, d1, d2⟩ := xr_lasts hr1 hok j1 j2
    refine ⟨_, M1, M2, ?_, d1, rl_q h (fun id _ h' => c2 id h') d2.mq1⟩
    simp only [f_X11_lasts, b1, mt_b1E, mt_b2E, mt_ltE, mt_00, mt_10, nm1, nm2, nm3, nm4, nm6, if_true, if_false, mt_b2_eta]
    exact c1
theorem cl_lacking (v u : Int32) : ck (f_X11_lacking v u) (f_X12_lacking v u) := by
  intro M h
  obtain ⟨A, n, q, L, T, w, rr, hwf, hh, hr, hI, hH, hL, hW, hF⟩ := id h
  have hv : cv 13 M A := hh.2.2
  have hok := hwf.1
  have h7 := hok.1
  obtain ⟨r, b1, b2, hb⟩ := bo_c v (lo := 0) (hi := 60) 0 60 rfl rfl (by decide) (by decide)
  rcases hb with (rfl | rfl) | ⟨rfl, j, j1, j2, rfl⟩
  · obtain ⟨o, o1⟩ : ∃ o, f_X11_isOneOf u 1 = some o := ⟨_, xo_oneOf _ _⟩
    obtain ⟨M1, c1, c2, c3⟩ := rn_4 h
    obtain ⟨M2, d1, d0, d2⟩ := c3 M1 (fun _ _ => rfl)
    have hr1 : rm M1 A := rm_fr hr (fun id hid => c2 id (by omega))
    refine ⟨-4, M1, M2, ?_, ?_, d2⟩
    · simp only [f_X11_lacking, b1, o1, f_X11_firstOf, mt_b1E, mt_b2E, mt_ltE, mt_00, mt_10, nm1, nm2, nm3, nm4, nm6, if_true, if_false, mt_b2_eta]
      exact c1
    · simp only [f_X12_lacking, f_X12_notDays, b2, mt_b1E, mt_b2E, mt_ltE, mt_00, mt_10, nm1, nm2, nm3, nm4, nm6, if_true, if_false, mt_b2_eta]
      exact d1
  · obtain ⟨o, o1⟩ : ∃ o, f_X11_isOneOf u 1 = some o := ⟨_, xo_oneOf _ _⟩
    obtain ⟨M1, c1, c2, c3⟩ := rn_6 h
    obtain ⟨M2, d1, d0, d2⟩ := c3 M1 (fun _ _ => rfl)
    have hr1 : rm M1 A := rm_fr hr (fun id hid => c2 id (by omega))
    refine ⟨-6, M1, M2, ?_, ?_, d2⟩
    · simp only [f_X11_lacking, b1, o1, f_X11_firstOf, mt_b1E, mt_b2E, mt_ltE, mt_00, mt_10, nm1, nm2, nm3, nm4, nm6, if_true, if_false, mt_b2_eta]
      exact c1
    · simp only [f_X12_lacking, f_X12_notDays, b2, mt_b1E, mt_b2E, mt_ltE, mt_00, mt_10, nm1, nm2, nm3, nm4, nm6, if_true, if_false, mt_b2_eta]
      exact d1
  · rcases oo_c u (b := 1) 1 rfl (by decide) with ⟨o1, o2⟩ | ⟨o1, o2, u, u1, rfl⟩
    · obtain ⟨M1, c1, c2, c3⟩ := rn_2 h
      obtain ⟨M2, d1, d0, d2⟩ := c3 M1 (fun _ _ => rfl)
      have hr1 : rm M1 A := rm_fr hr (fun id hid => c2 id (by omega))
      refine ⟨-2, M1, M2, ?_, ?_, d2⟩
      · simp only [f_X11_lacking, b1, o1, f_X11_firstOf, mt_b1E, mt_b2E, mt_ltE, mt_00, mt_10, nm1, nm2, nm3, nm4, nm6, if_true, if_false, mt_b2_eta]
        exact c1
      · simp only [f_X12_lacking, f_X12_notDays, b2, o2, mt_b1E, mt_b2E, mt_ltE, mt_00, mt_10, nm1, nm2, nm3, nm4, nm6, if_true, if_false, mt_b2_eta]
        exact d1
    · rcases (show u = 0 ∨ u = 1 by omega) with rfl | rfl
      · obtain ⟨M1, c1, c2⟩ := xn_lacked hv hok (n := j) (by omega)
        have hr1 : rm M1 A := rm_fr hr (fun id hid => c2 id (by omega))
        obtain ⟨M2, d1, d2, d3⟩ := xr_lackingIn hr1 hok (n := j) (by omega)
        have z : (nI 0 = (0 : Int32)) = True := eq_true rfl
        refine ⟨nI (sp_sm (A 6 0) (fun t => sp_lN (A 0 t) (A 1 t) (A 2 t) j (A 3 t))), M1, M2, ?_, ?_, rl_q h (fun id _ h' => c2 id h') d2.mq1⟩
        · simp only [f_X11_lacking, b1, o1, f_X11_firstOf, z, mt_b1E, mt_b2E, mt_ltE, mt_00, mt_10, nm1, nm2, nm3, nm4, nm6, if_true, if_false, mt_b2_eta]
          exact c1
        · simp only [f_X12_lacking, f_X12_notDays, b2, o2, d1, z, mt_b1E, mt_b2E, mt_ltE, mt_00, mt_10, nm1, nm2, nm3, nm4, nm6, if_true, if_false, mt_b2_eta]
      · obtain ⟨M1, c1, c2⟩ := xn_spoilt hv hok (n := j) (by omega)
        have hr1 : rm M1 A := rm_fr hr (fun id hid => c2 id (by omega))
        obtain ⟨M2, d1, d2, d3⟩ := xr_lackingIn hr1 hok (n := j) (by omega)
        have z : (nI 1 = (0 : Int32)) = False := eq_false (by decide)
        refine ⟨nI (sp_sm (A 6 0) (fun t => sp_qN (A 0 t) (A 1 t) (A 2 t) j (A 3 t))), M1, M2, ?_, ?_, rl_q h (fun id _ h' => c2 id h') d2.mq1⟩
        · simp only [f_X11_lacking, b1, o1, f_X11_firstOf, z, mt_b1E, mt_b2E, mt_ltE, mt_00, mt_10, nm1, nm2, nm3, nm4, nm6, if_true, if_false, mt_b2_eta]
          exact c1
        · simp only [f_X12_lacking, f_X12_notDays, b2, o2, d1, d3, z, mt_b1E, mt_b2E, mt_ltE, mt_00, mt_10, nm1, nm2, nm3, nm4, nm6, if_true, if_false, mt_b2_eta]
theorem cl_order (v u : Int32) : ck (f_X11_order v u) (f_X12_order v u) := by
  intro M h
  obtain ⟨A, n, q, L, T, w, rr, hwf, hh, hr, hI, hH, hL, hW, hF⟩ := id h
  have hv : cv 13 M A := hh.2.2
  have hok := hwf.1
  have h7 := hok.1
  obtain ⟨r, b1, b2, hb⟩ := bo_c v (lo := 0) (hi := 999) 0 999 rfl rfl (by decide) (by decide)
  rcases hb with (rfl | rfl) | ⟨rfl, j, j1, j2, rfl⟩
  · obtain ⟨o, o1⟩ : ∃ o, f_X11_isOneOf u 1 = some o := ⟨_, xo_oneOf _ _⟩
    obtain ⟨M1, c1, c2, c3⟩ := rn_4 h
    obtain ⟨M2, d1, d0, d2⟩ := c3 M1 (fun _ _ => rfl)
    have hr1 : rm M1 A := rm_fr hr (fun id hid => c2 id (by omega))
    refine ⟨-4, M1, M2, ?_, ?_, d2⟩
    · simp only [f_X11_order, b1, o1, f_X11_firstOf, mt_b1E, mt_b2E, mt_ltE, mt_00, mt_10, nm1, nm2, nm3, nm4, nm6, if_true, if_false, mt_b2_eta]
      exact c1
    · simp only [f_X12_order, b2, mt_b1E, mt_b2E, mt_ltE, mt_00, mt_10, nm1, nm2, nm3, nm4, nm6, if_true, if_false, mt_b2_eta]
      exact d1
  · obtain ⟨o, o1⟩ : ∃ o, f_X11_isOneOf u 1 = some o := ⟨_, xo_oneOf _ _⟩
    obtain ⟨M1, c1, c2, c3⟩ := rn_6 h
    obtain ⟨M2, d1, d0, d2⟩ := c3 M1 (fun _ _ => rfl)
    have hr1 : rm M1 A := rm_fr hr (fun id hid => c2 id (by omega))
    refine ⟨-6, M1, M2, ?_, ?_, d2⟩
    · simp only [f_X11_order, b1, o1, f_X11_firstOf, mt_b1E, mt_b2E, mt_ltE, mt_00, mt_10, nm1, nm2, nm3, nm4, nm6, if_true, if_false, mt_b2_eta]
      exact c1
    · simp only [f_X12_order, b2, mt_b1E, mt_b2E, mt_ltE, mt_00, mt_10, nm1, nm2, nm3, nm4, nm6, if_true, if_false, mt_b2_eta]
      exact d1
  · rcases oo_c u (b := 1) 1 rfl (by decide) with ⟨o1, o2⟩ | ⟨o1, o2, u, u1, rfl⟩
    · obtain ⟨M1, c1, c2, c3⟩ := rn_2 h
      obtain ⟨M2, d1, d0, d2⟩ := c3 M1 (fun _ _ => rfl)
      have hr1 : rm M1 A := rm_fr hr (fun id hid => c2 id (by omega))
      refine ⟨-2, M1, M2, ?_, ?_, d2⟩
      · simp only [f_X11_order, b1, o1, f_X11_firstOf, mt_b1E, mt_b2E, mt_ltE, mt_00, mt_10, nm1, nm2, nm3, nm4, nm6, if_true, if_false, mt_b2_eta]
        exact c1
      · simp only [f_X12_order, b2, o2, mt_b1E, mt_b2E, mt_ltE, mt_00, mt_10, nm1, nm2, nm3, nm4, nm6, if_true, if_false, mt_b2_eta]
        exact d1
    · obtain ⟨M1, c1, cw, c2⟩ := xn_bestSet hv hok (v := j) (by omega)
      have hr1 : rm M1 A := rm_fr hr (fun id hid => c2 id (by omega))
      have hv1 : cv 13 M1 A := c2.cv hv
      obtain ⟨M2, d1, d2⟩ := xr_order hr1 hok j2 (w := nI u) (by rcases (show u = 0 ∨ u = 1 by omega) with rfl | rfl; exact Or.inl rfl; exact Or.inr rfl)
      refine ⟨_, M1, M2, ?_, d1, rl_q h (fun id _ h' => c2 id h') d2⟩
      have hb := sp_bs_le A j (2 ^ A 6 0 - 1)
      have hpw := sp_pw (A 6 0) h7
      simp only [f_X11_order, b1, o1, f_X11_firstOf, c1, xn_lackSet hv1 hok cw (show sp_bs A j (2 ^ A 6 0 - 1) < 128 by omega), mt_b1E, mt_b2E, mt_ltE, mt_00, mt_10, nm1, nm2, nm3, nm4, nm6, if_true, if_false, mt_b2_eta]
      by_cases z : nI u = 0
      · rw [if_pos z, if_pos z]
      · rw [if_neg z, if_neg z]
theorem sp_tn_z (A : hs_A) (w n : Nat) : 3 * sp_tc w (hs_z A) n + hs_tn w (hs_z A) n 6 4 + 2 * hs_tn w (hs_z A) n 6 5 = 3 * sp_tc w A n + (hs_tn w A n 6 4 - A 6 4) + 2 * (hs_tn w A n 6 5 - A 6 5) := by
  have e1 := sp_tc_sh w (hs_z A) (A 6 4) (A 6 5) (A 6 6) n
  have e2 := hs_sh_tn w (hs_z A) (A 6 4) (A 6 5) (A 6 6) n
  rw [hs_sh_z] at e1 e2
  obtain ⟨s1, s2, -⟩ := hs_sh_6 (hs_tn w (hs_z A) n) (A 6 4) (A 6 5) (A 6 6)
  rw [e1, e2, s1, s2, Nat.add_sub_cancel, Nat.add_sub_cancel]
theorem cl_turns (v u : Int32) : ck (f_X11_turns v u) (f_X12_turns v u) := by
  intro M h
  obtain ⟨A, n, q, L, T, w, rr, hwf, hh, hr, hI, hH, hL, hW, hF⟩ := id h
  have hv : cv 13 M A := hh.2.2
  have hok := hwf.1
  have h7 := hok.1
  obtain ⟨r, b1, b2, hb⟩ := bo_c v (lo := 1) (hi := 60) 1 60 rfl rfl (by decide) (by decide)
  rcases hb with (rfl | rfl) | ⟨rfl, j, j1, j2, rfl⟩
  · obtain ⟨o, o1⟩ : ∃ o, f_X11_isOneOf u 1 = some o := ⟨_, xo_oneOf _ _⟩
    obtain ⟨M1, c1, c2, c3⟩ := rn_4 h
    obtain ⟨M2, d1, d0, d2⟩ := c3 M1 (fun _ _ => rfl)
    have hr1 : rm M1 A := rm_fr hr (fun id hid => c2 id (by omega))
    refine ⟨-4, M1, M2, ?_, ?_, d2⟩
    · simp only [f_X11_turns, b1, o1, f_X11_firstOf, mt_b1E, mt_b2E, mt_ltE, mt_00, mt_10, nm1, nm2, nm3, nm4, nm6, if_true, if_false, mt_b2_eta]
      exact c1
    · simp only [f_X12_turns, b2, mt_b1E, mt_b2E, mt_ltE, mt_00, mt_10, nm1, nm2, nm3, nm4, nm6, if_true, if_false, mt_b2_eta]
      exact d1
  · obtain ⟨o, o1⟩ : ∃ o, f_X11_isOneOf u 1 = some o := ⟨_, xo_oneOf _ _⟩
    obtain ⟨M1, c1, c2, c3⟩ := rn_6 h
    obtain ⟨M2, d1, d0, d2⟩ := c3 M1 (fun _ _ => rfl)
    have hr1 : rm M1 A := rm_fr hr (fun id hid => c2 id (by omega))
    refine ⟨-6, M1, M2, ?_, ?_, d2⟩
    · simp only [f_X11_turns, b1, o1, f_X11_firstOf, mt_b1E, mt_b2E, mt_ltE, mt_00, mt_10, nm1, nm2, nm3, nm4, nm6, if_true, if_false, mt_b2_eta]
      exact c1
    · simp only [f_X12_turns, b2, mt_b1E, mt_b2E, mt_ltE, mt_00, mt_10, nm1, nm2, nm3, nm4, nm6, if_true, if_false, mt_b2_eta]
      exact d1
  · rcases oo_c u (b := 1) 1 rfl (by decide) with ⟨o1, o2⟩ | ⟨o1, o2, u, u1, rfl⟩
    · obtain ⟨M1, c1, c2, c3⟩ := rn_2 h
      obtain ⟨M2, d1, d0, d2⟩ := c3 M1 (fun _ _ => rfl)
      have hr1 : rm M1 A := rm_fr hr (fun id hid => c2 id (by omega))
      refine ⟨-2, M1, M2, ?_, ?_, d2⟩
      · simp only [f_X11_turns, b1, o1, f_X11_firstOf, mt_b1E, mt_b2E, mt_ltE, mt_00, mt_10, nm1, nm2, nm3, nm4, nm6, if_true, if_false, mt_b2_eta]
        exact c1
      · simp only [f_X12_turns, b2, o2, mt_b1E, mt_b2E, mt_ltE, mt_00, mt_10, nm1, nm2, nm3, nm4, nm6, if_true, if_false, mt_b2_eta]
        exact d1
    · obtain ⟨M1, c1, c2⟩ := xn_turns hv hok hh.1.2.1 (by have := hwf.2.1.2.1; omega) (n := j) (by omega) u1
      have hr1 : rm M1 A := rm_fr hr (fun id hid => c2 id (by omega))
      obtain ⟨M2, d1, d2, -, -⟩ := xr_turns hr1 hok hwf.tb (by have := hwf.2.1.2.1; omega) j1 j2 u1
      rw [← sp_tn_z] at d1
      refine ⟨_, M1, M2, ?_, d1, rl_q h (fun id _ h' => c2 id h') d2.mq1⟩
      simp only [f_X11_turns, b1, o1, f_X11_firstOf, mt_b1E, mt_b2E, mt_ltE, mt_00, mt_10, nm1, nm2, nm3, nm4, nm6, if_true, if_false, mt_b2_eta]
      exact c1
theorem cl_lots (v z u : Int32) : ck (f_X11_lots v z u) (f_X12_lots v z u) := by
  intro M h
  obtain ⟨A, n, q, L, T, w, rr, hwf, hh, hr, hI, hH, hL, hW, hF⟩ := id h
  have hv : cv 13 M A := hh.2.2
  have hok := hwf.1
  have h7 := hok.1
  obtain ⟨r, b1, b2, hb⟩ := bo_c v (lo := 1) (hi := 20) 1 20 rfl rfl (by decide) (by decide)
  rcases hb with (rfl | rfl) | ⟨rfl, j, j1, j2, rfl⟩
  · obtain ⟨o, o1⟩ : ∃ o, f_X11_isOneOf u 1 = some o := ⟨_, xo_oneOf _ _⟩
    obtain ⟨M1, c1, c2, c3⟩ := rn_4 h
    obtain ⟨M2, d1, d0, d2⟩ := c3 M1 (fun _ _ => rfl)
    have hr1 : rm M1 A := rm_fr hr (fun id hid => c2 id (by omega))
    refine ⟨-4, M1, M2, ?_, ?_, d2⟩
    · simp only [f_X11_lots, b1, o1, f_X11_firstOf, mt_b1E, mt_b2E, mt_ltE, mt_00, mt_10, nm1, nm2, nm3, nm4, nm6, if_true, if_false, mt_b2_eta]
      exact c1
    · simp only [f_X12_lots, b2, mt_b1E, mt_b2E, mt_ltE, mt_00, mt_10, nm1, nm2, nm3, nm4, nm6, if_true, if_false, mt_b2_eta]
      exact d1
  · obtain ⟨o, o1⟩ : ∃ o, f_X11_isOneOf u 1 = some o := ⟨_, xo_oneOf _ _⟩
    obtain ⟨M1, c1, c2, c3⟩ := rn_6 h
    obtain ⟨M2, d1, d0, d2⟩ := c3 M1 (fun _ _ => rfl)
    have hr1 : rm M1 A := rm_fr hr (fun id hid => c2 id (by omega))
    refine ⟨-6, M1, M2, ?_, ?_, d2⟩
    · simp only [f_X11_lots, b1, o1, f_X11_firstOf, mt_b1E, mt_b2E, mt_ltE, mt_00, mt_10, nm1, nm2, nm3, nm4, nm6, if_true, if_false, mt_b2_eta]
      exact c1
    · simp only [f_X12_lots, b2, mt_b1E, mt_b2E, mt_ltE, mt_00, mt_10, nm1, nm2, nm3, nm4, nm6, if_true, if_false, mt_b2_eta]
      exact d1
  · rcases oo_c u (b := 1) 1 rfl (by decide) with ⟨o1, o2⟩ | ⟨o1, o2, u, u1, rfl⟩
    · obtain ⟨M1, c1, c2, c3⟩ := rn_2 h
      obtain ⟨M2, d1, d0, d2⟩ := c3 M1 (fun _ _ => rfl)
      have hr1 : rm M1 A := rm_fr hr (fun id hid => c2 id (by omega))
      refine ⟨-2, M1, M2, ?_, ?_, d2⟩
      · simp only [f_X11_lots, b1, o1, f_X11_firstOf, mt_b1E, mt_b2E, mt_ltE, mt_00, mt_10, nm1, nm2, nm3, nm4, nm6, if_true, if_false, mt_b2_eta]
        exact c1
      · simp only [f_X12_lots, b2, o2, mt_b1E, mt_b2E, mt_ltE, mt_00, mt_10, nm1, nm2, nm3, nm4, nm6, if_true, if_false, mt_b2_eta]
        exact d1
    · obtain ⟨M1, c1, c2⟩ := xn_lots hv hok (n := j) (by omega) z u1
      have hr1 : rm M1 A := rm_fr hr (fun id hid => c2 id (by omega))
      obtain ⟨M2, d1, d2⟩ := xr_lots hr1 hok j1 j2 z u1
      refine ⟨_, M1, M2, ?_, d1, rl_q h (fun id _ h' => c2 id h') d2.mq1⟩
      simp only [f_X11_lots, b1, o1, f_X11_firstOf, mt_b1E, mt_b2E, mt_ltE, mt_00, mt_10, nm1, nm2, nm3, nm4, nm6, if_true, if_false, mt_b2_eta]
      exact c1
theorem cl_worth : cp f_X11_worth f_X12_worth := by
  intro M h
  obtain ⟨A, n, q, L, T, w, rr, hwf, hh, hr, hI, hH, hL, hW, hF⟩ := id h
  have hv : cv 13 M A := hh.2.2
  have hok := hwf.1
  have h7 := hok.1
  exact ⟨_, by
    simp only [f_X11_worth, xc_worth hv hok, mt_b1E], xm_worth hr hok⟩
theorem cl_weekly : cp f_X11_weekly f_X12_weekly := by
  intro M h
  obtain ⟨A, n, q, L, T, w, rr, hwf, hh, hr, hI, hH, hL, hW, hF⟩ := id h
  have hv : cv 13 M A := hh.2.2
  have hok := hwf.1
  have h7 := hok.1
  exact ⟨_, by
    simp only [f_X11_weekly, xc_week hv hok, mt_b1E], xm_week hr hok⟩
theorem cl_latest : cp f_X11_latest f_X12_latest := by
  intro M h
  obtain ⟨A, n, q, L, T, w, rr, hwf, hh, hr, hI, hH, hL, hW, hF⟩ := id h
  have hv : cv 13 M A := hh.2.2
  have hok := hwf.1
  have h7 := hok.1
  exact ⟨_, by
    simp only [f_X11_latest, hc_latest hh hwf, mt_b1E], xm_latest hr hwf⟩
theorem cl_apart : cp f_X11_apart f_X12_apart := by
  intro M h
  obtain ⟨A, n, q, L, T, w, rr, hwf, hh, hr, hI, hH, hL, hW, hF⟩ := id h
  have hv : cv 13 M A := hh.2.2
  have hok := hwf.1
  have h7 := hok.1
  have a0 : f_X4_wantedBy 10 0 M = some (nI (A 6 7)) := hc_wanted hh (l := 0) (by decide)
  have a1 : f_X4_wantedBy 10 1 M = some (nI (A 6 8)) := hc_wanted hh (l := 1) (by decide)
  have b0 : f_X12_wants 0 M = some (nI (A 6 7)) := xm_wants hr hwf (l := 0) (by decide)
  have b1 : f_X12_wants 1 M = some (nI (A 6 8)) := xm_wants hr hwf (l := 1) (by decide)
  exact ⟨_, by simp only [f_X11_apart, a0, a1, mt_b1E]; rfl, by simp only [f_X12_apart, b0, b1, mt_b1E]⟩
theorem cl_twice : cp f_X11_twice f_X12_twice := by
  intro M h
  obtain ⟨A, n, q, L, T, w, rr, hwf, hh, hr, hI, hH, hL, hW, hF⟩ := id h
  have hv : cv 13 M A := hh.2.2
  have hok := hwf.1
  have h7 := hok.1
  have a0 : f_X4_wantedBy 10 0 M = some (nI (A 6 7)) := hc_wanted hh (l := 0) (by decide)
  have a1 : f_X4_wantedBy 10 1 M = some (nI (A 6 8)) := hc_wanted hh (l := 1) (by decide)
  have b0 : f_X12_wants 0 M = some (nI (A 6 7)) := xm_wants hr hwf (l := 0) (by decide)
  have b1 : f_X12_wants 1 M = some (nI (A 6 8)) := xm_wants hr hwf (l := 1) (by decide)
  exact ⟨_, by simp only [f_X11_twice, a0, a1, mt_b1E]; rfl, by simp only [f_X12_twice, b0, b1, mt_b1E]⟩

/-! THE CALLS, ONE BY ONE: longs, the row, letters -/
def ckL (f g : mt_M → Option (Int64 × mt_M)) : Prop := ∀ M, rl M → ∃ r M1 M2, f M = some (r, M1) ∧ g M1 = some (r, M2) ∧ rl M2
theorem cl_sure (a b c : Int32) : ckL (f_X11_sure a b c) (f_X12_sure a b c) := by
  intro M h
  obtain ⟨A, n, q, L, T, w, rr, hwf, hh, hr, hI, hH, hL, hW, hF⟩ := id h
  have hv : cv 13 M A := hh.2.2
  have hok := hwf.1
  have h7 := hok.1
  obtain ⟨r, b1, b2, hb⟩ := bo_c a (lo := 2) (hi := 99) 2 99 rfl rfl (by decide) (by decide)
  have ho1 := oo_c b (b := 1) 1 rfl (by decide)
  have ho2 := oo_c c (b := 1) 1 rfl (by decide)
  rcases hb with (rfl | rfl) | ⟨rfl, j, j1, j2, rfl⟩
  · rcases ho1 with ⟨p1, p2⟩ | ⟨p1, p2, -⟩
    · obtain ⟨M1, c1, c2, c3⟩ := rn_4 h
      obtain ⟨M2, d1, d0, d2⟩ := c3 M1 (fun _ _ => rfl)
      have hr1 : rm M1 A := rm_fr hr (fun id hid => c2 id (by omega))
      have cL : f_X11_refuseLong (-4) M = some ((4000000000000000000 : Int64) - (-4 : Int32).toInt64, M1) := by simp only [f_X11_refuseLong, c1, mt_b2E]
      refine ⟨(4000000000000000000 : Int64) - (-4 : Int32).toInt64, M1, M2, ?_, ?_, d2⟩
      · simp only [f_X11_sure, b1, p1, f_X11_firstOf, mt_b1E, mt_b2E, mt_ltE, mt_00, mt_10, nm1, nm2, nm3, nm4, nm6, if_true, if_false, mt_b2_eta]
        exact cL
      · simp only [f_X12_sure, b2, mt_b1E, mt_b2E, mt_ltE, mt_00, mt_10, nm1, nm2, nm3, nm4, nm6, if_true, if_false, mt_b2_eta]
        exact d0
    · rcases ho2 with ⟨q1, q2⟩ | ⟨q1, q2, -⟩
      · obtain ⟨M1, c1, c2, c3⟩ := rn_4 h
        obtain ⟨M2, d1, d0, d2⟩ := c3 M1 (fun _ _ => rfl)
        have hr1 : rm M1 A := rm_fr hr (fun id hid => c2 id (by omega))
        have cL : f_X11_refuseLong (-4) M = some ((4000000000000000000 : Int64) - (-4 : Int32).toInt64, M1) := by simp only [f_X11_refuseLong, c1, mt_b2E]
        refine ⟨(4000000000000000000 : Int64) - (-4 : Int32).toInt64, M1, M2, ?_, ?_, d2⟩
        · simp only [f_X11_sure, b1, p1, q1, f_X11_firstOf, mt_b1E, mt_b2E, mt_ltE, mt_00, mt_10, nm1, nm2, nm3, nm4, nm6, if_true, if_false, mt_b2_eta]
          exact cL
        · simp only [f_X12_sure, b2, mt_b1E, mt_b2E, mt_ltE, mt_00, mt_10, nm1, nm2, nm3, nm4, nm6, if_true, if_false, mt_b2_eta]
          exact d0
      · obtain ⟨M1, c1, c2, c3⟩ := rn_4 h
        obtain ⟨M2, d1, d0, d2⟩ := c3 M1 (fun _ _ => rfl)
        have hr1 : rm M1 A := rm_fr hr (fun id hid => c2 id (by omega))
        have cL : f_X11_refuseLong (-4) M = some ((4000000000000000000 : Int64) - (-4 : Int32).toInt64, M1) := by simp only [f_X11_refuseLong, c1, mt_b2E]
        refine ⟨(4000000000000000000 : Int64) - (-4 : Int32).toInt64, M1, M2, ?_, ?_, d2⟩
        · simp only [f_X11_sure, b1, p1, q1, f_X11_firstOf, mt_b1E, mt_b2E, mt_ltE, mt_00, mt_10, nm1, nm2, nm3, nm4, nm6, if_true, if_false, mt_b2_eta]
          exact cL
        · simp only [f_X12_sure, b2, mt_b1E, mt_b2E, mt_ltE, mt_00, mt_10, nm1, nm2, nm3, nm4, nm6, if_true, if_false, mt_b2_eta]
          exact d0
  · rcases ho1 with ⟨p1, p2⟩ | ⟨p1, p2, -⟩
    · obtain ⟨M1, c1, c2, c3⟩ := rn_6 h
      obtain ⟨M2, d1, d0, d2⟩ := c3 M1 (fun _ _ => rfl)
      have hr1 : rm M1 A := rm_fr hr (fun id hid => c2 id (by omega))
      have cL : f_X11_refuseLong (-6) M = some ((4000000000000000000 : Int64) - (-6 : Int32).toInt64, M1) := by simp only [f_X11_refuseLong, c1, mt_b2E]
      refine ⟨(4000000000000000000 : Int64) - (-6 : Int32).toInt64, M1, M2, ?_, ?_, d2⟩
      · simp only [f_X11_sure, b1, p1, f_X11_firstOf, mt_b1E, mt_b2E, mt_ltE, mt_00, mt_10, nm1, nm2, nm3, nm4, nm6, if_true, if_false, mt_b2_eta]
        exact cL
      · simp only [f_X12_sure, b2, mt_b1E, mt_b2E, mt_ltE, mt_00, mt_10, nm1, nm2, nm3, nm4, nm6, if_true, if_false, mt_b2_eta]
        exact d0
    · rcases ho2 with ⟨q1, q2⟩ | ⟨q1, q2, -⟩
      · obtain ⟨M1, c1, c2, c3⟩ := rn_6 h
        obtain ⟨M2, d1, d0, d2⟩ := c3 M1 (fun _ _ => rfl)
        have hr1 : rm M1 A := rm_fr hr (fun id hid => c2 id (by omega))
        have cL : f_X11_refuseLong (-6) M = some ((4000000000000000000 : Int64) - (-6 : Int32).toInt64, M1) := by simp only [f_X11_refuseLong, c1, mt_b2E]
        refine ⟨(4000000000000000000 : Int64) - (-6 : Int32).toInt64, M1, M2, ?_, ?_, d2⟩
        · simp only [f_X11_sure, b1, p1, q1, f_X11_firstOf, mt_b1E, mt_b2E, mt_ltE, mt_00, mt_10, nm1, nm2, nm3, nm4, nm6, if_true, if_false, mt_b2_eta]
          exact cL
        · simp only [f_X12_sure, b2, mt_b1E, mt_b2E, mt_ltE, mt_00, mt_10, nm1, nm2, nm3, nm4, nm6, if_true, if_false, mt_b2_eta]
          exact d0
      · obtain ⟨M1, c1, c2, c3⟩ := rn_6 h
        obtain ⟨M2, d1, d0, d2⟩ := c3 M1 (fun _ _ => rfl)
        have hr1 : rm M1 A := rm_fr hr (fun id hid => c2 id (by omega))
        have cL : f_X11_refuseLong (-6) M = some ((4000000000000000000 : Int64) - (-6 : Int32).toInt64, M1) := by simp only [f_X11_refuseLong, c1, mt_b2E]
        refine ⟨(4000000000000000000 : Int64) - (-6 : Int32).toInt64, M1, M2, ?_, ?_, d2⟩
        · simp only [f_X11_sure, b1, p1, q1, f_X11_firstOf, mt_b1E, mt_b2E, mt_ltE, mt_00, mt_10, nm1, nm2, nm3, nm4, nm6, if_true, if_false, mt_b2_eta]
          exact cL
        · simp only [f_X12_sure, b2, mt_b1E, mt_b2E, mt_ltE, mt_00, mt_10, nm1, nm2, nm3, nm4, nm6, if_true, if_false, mt_b2_eta]
          exact d0
  · rcases ho1 with ⟨p1, p2⟩ | ⟨p1, p2, i, i1, rfl⟩
    · obtain ⟨M1, c1, c2, c3⟩ := rn_2 h
      obtain ⟨M2, d1, d0, d2⟩ := c3 M1 (fun _ _ => rfl)
      have hr1 : rm M1 A := rm_fr hr (fun id hid => c2 id (by omega))
      have cL : f_X11_refuseLong (-2) M = some ((4000000000000000000 : Int64) - (-2 : Int32).toInt64, M1) := by simp only [f_X11_refuseLong, c1, mt_b2E]
      refine ⟨(4000000000000000000 : Int64) - (-2 : Int32).toInt64, M1, M2, ?_, ?_, d2⟩
      · simp only [f_X11_sure, b1, p1, f_X11_firstOf, mt_b1E, mt_b2E, mt_ltE, mt_00, mt_10, nm1, nm2, nm3, nm4, nm6, if_true, if_false, mt_b2_eta]
        exact cL
      · simp only [f_X12_sure, b2, p2, mt_b1E, mt_b2E, mt_ltE, mt_00, mt_10, nm1, nm2, nm3, nm4, nm6, if_true, if_false, mt_b2_eta]
        exact d0
    · rcases ho2 with ⟨q1, q2⟩ | ⟨q1, q2, k, k1, rfl⟩
      · obtain ⟨M1, c1, c2, c3⟩ := rn_2 h
        obtain ⟨M2, d1, d0, d2⟩ := c3 M1 (fun _ _ => rfl)
        have hr1 : rm M1 A := rm_fr hr (fun id hid => c2 id (by omega))
        have cL : f_X11_refuseLong (-2) M = some ((4000000000000000000 : Int64) - (-2 : Int32).toInt64, M1) := by simp only [f_X11_refuseLong, c1, mt_b2E]
        refine ⟨(4000000000000000000 : Int64) - (-2 : Int32).toInt64, M1, M2, ?_, ?_, d2⟩
        · simp only [f_X11_sure, b1, p1, q1, f_X11_firstOf, mt_b1E, mt_b2E, mt_ltE, mt_00, mt_10, nm1, nm2, nm3, nm4, nm6, if_true, if_false, mt_b2_eta]
          exact cL
        · simp only [f_X12_sure, b2, p2, q2, mt_b1E, mt_b2E, mt_ltE, mt_00, mt_10, nm1, nm2, nm3, nm4, nm6, if_true, if_false, mt_b2_eta]
          exact d0
      · have hw : nI k = 0 ∨ nI k = 1 := by rcases (show k = 0 ∨ k = 1 by omega) with rfl | rfl; exact Or.inl rfl; exact Or.inr rfl
        exact ⟨_, M, M, xl_sure j1 j2 i1 hw M, xl_sure2 j1 j2 i1 hw M, h⟩
theorem cl_flour (a b c d : Int32) (uu : mt_U) : ∀ M, rl M → ∃ r M1 M2 u2, f_X11_flour a b c d M = some (r, M1) ∧ f_X12_flour a b c d M1 uu = some (r, M2, u2) ∧ rl M2 := by
  intro M h
  obtain ⟨A, n, q, L, T, w, rr, hwf, hh, hr, hI, hH, hL, hW, hF⟩ := id h
  have hv : cv 13 M A := hh.2.2
  have hok := hwf.1
  have h7 := hok.1
  by_cases z1 : a < 0
  · obtain ⟨M1, c1, c2, c3⟩ := rn_4 h
    obtain ⟨M2, d1, d0, d2⟩ := c3 M1 (fun _ _ => rfl)
    have hr1 : rm M1 A := rm_fr hr (fun id hid => c2 id (by omega))
    have cL : f_X11_refuseLong (-4) M = some ((4000000000000000000 : Int64) - (-4 : Int32).toInt64, M1) := by simp only [f_X11_refuseLong, c1, mt_b2E]
    refine ⟨(4000000000000000000 : Int64) - (-4 : Int32).toInt64, M1, M2, uu, ?_, ?_, d2⟩
    · simp only [f_X11_flour, if_pos z1, mt_b1E, mt_b2E, mt_ltE, mt_00, mt_10, nm1, nm2, nm3, nm4, nm6, if_true, if_false, mt_b2_eta]
      exact cL
    · simp only [f_X12_flour, if_pos z1, d0, mt_b1E, mt_b2E, mt_ltE, mt_00, mt_10, nm1, nm2, nm3, nm4, nm6, if_true, if_false, mt_b2_eta]
  · by_cases z2 : b < 0
    · obtain ⟨M1, c1, c2, c3⟩ := rn_4 h
      obtain ⟨M2, d1, d0, d2⟩ := c3 M1 (fun _ _ => rfl)
      have hr1 : rm M1 A := rm_fr hr (fun id hid => c2 id (by omega))
      have cL : f_X11_refuseLong (-4) M = some ((4000000000000000000 : Int64) - (-4 : Int32).toInt64, M1) := by simp only [f_X11_refuseLong, c1, mt_b2E]
      refine ⟨(4000000000000000000 : Int64) - (-4 : Int32).toInt64, M1, M2, uu, ?_, ?_, d2⟩
      · simp only [f_X11_flour, if_neg z1, if_pos z2, mt_b1E, mt_b2E, mt_ltE, mt_00, mt_10, nm1, nm2, nm3, nm4, nm6, if_true, if_false, mt_b2_eta]
        exact cL
      · simp only [f_X12_flour, if_neg z1, if_pos z2, d0, mt_b1E, mt_b2E, mt_ltE, mt_00, mt_10, nm1, nm2, nm3, nm4, nm6, if_true, if_false, mt_b2_eta]
    · by_cases z3 : 0 ≤ c
      · by_cases z4 : 9 < a
        · obtain ⟨M1, c1, c2, c3⟩ := rn_6 h
          obtain ⟨M2, d1, d0, d2⟩ := c3 M1 (fun _ _ => rfl)
          have hr1 : rm M1 A := rm_fr hr (fun id hid => c2 id (by omega))
          have cL : f_X11_refuseLong (-6) M = some ((4000000000000000000 : Int64) - (-6 : Int32).toInt64, M1) := by simp only [f_X11_refuseLong, c1, mt_b2E]
          refine ⟨(4000000000000000000 : Int64) - (-6 : Int32).toInt64, M1, M2, uu, ?_, ?_, d2⟩
          · simp only [f_X11_flour, if_neg z1, if_neg z2, if_pos z3, if_pos z4, mt_b1E, mt_b2E, mt_ltE, mt_00, mt_10, nm1, nm2, nm3, nm4, nm6, if_true, if_false, mt_b2_eta]
            exact cL
          · simp only [f_X12_flour, if_neg z1, if_neg z2, if_pos z3, if_pos z4, d0, mt_b1E, mt_b2E, mt_ltE, mt_00, mt_10, nm1, nm2, nm3, nm4, nm6, if_true, if_false, mt_b2_eta]
        · by_cases z5 : 12 < b
          · obtain ⟨M1, c1, c2, c3⟩ := rn_6 h
            obtain ⟨M2, d1, d0, d2⟩ := c3 M1 (fun _ _ => rfl)
            have hr1 : rm M1 A := rm_fr hr (fun id hid => c2 id (by omega))
            have cL : f_X11_refuseLong (-6) M = some ((4000000000000000000 : Int64) - (-6 : Int32).toInt64, M1) := by simp only [f_X11_refuseLong, c1, mt_b2E]
            refine ⟨(4000000000000000000 : Int64) - (-6 : Int32).toInt64, M1, M2, uu, ?_, ?_, d2⟩
            · simp only [f_X11_flour, if_neg z1, if_neg z2, if_pos z3, if_neg z4, if_pos z5, mt_b1E, mt_b2E, mt_ltE, mt_00, mt_10, nm1, nm2, nm3, nm4, nm6, if_true, if_false, mt_b2_eta]
              exact cL
            · simp only [f_X12_flour, if_neg z1, if_neg z2, if_pos z3, if_neg z4, if_pos z5, d0, mt_b1E, mt_b2E, mt_ltE, mt_00, mt_10, nm1, nm2, nm3, nm4, nm6, if_true, if_false, mt_b2_eta]
          · by_cases z6 : c ≤ 10
            · rcases oo_c d (b := 1) 1 rfl (by decide) with ⟨q1, q2⟩ | ⟨q1, q2, k, k1, rfl⟩
              · obtain ⟨M1, c1, c2, c3⟩ := rn_2 h
                obtain ⟨M2, d1, d0, d2⟩ := c3 M1 (fun _ _ => rfl)
                have hr1 : rm M1 A := rm_fr hr (fun id hid => c2 id (by omega))
                have cL : f_X11_refuseLong (-2) M = some ((4000000000000000000 : Int64) - (-2 : Int32).toInt64, M1) := by simp only [f_X11_refuseLong, c1, mt_b2E]
                refine ⟨(4000000000000000000 : Int64) - (-2 : Int32).toInt64, M1, M2, uu, ?_, ?_, d2⟩
                · simp only [f_X11_flour, if_neg z1, if_neg z2, if_pos z3, if_neg z4, if_neg z5, if_pos z6, q1, mt_b1E, mt_b2E, mt_ltE, mt_00, mt_10, nm1, nm2, nm3, nm4, nm6, if_true, if_false, mt_b2_eta]
                  exact cL
                · simp only [f_X12_flour, if_neg z1, if_neg z2, if_pos z3, if_neg z4, if_neg z5, if_pos z6, q2, d0, mt_b1E, mt_b2E, mt_ltE, mt_00, mt_10, nm1, nm2, nm3, nm4, nm6, if_true, if_false, mt_b2_eta]
              · have hw : nI k = 0 ∨ nI k = 1 := by rcases (show k = 0 ∨ k = 1 by omega) with rfl | rfl; exact Or.inl rfl; exact Or.inr rfl
                obtain ⟨i1, hi1, rfl⟩ := nI_of z1
                obtain ⟨i2, hi2, rfl⟩ := nI_of z2
                obtain ⟨i3, hi3, rfl⟩ := nI_of (Int32.not_lt.mpr z3)
                have l1 : i1 ≤ 9 := Nat.not_lt.mp fun q => z4 (nI_lt q hi1)
                have l2 : i2 ≤ 12 := Nat.not_lt.mp fun q => z5 (nI_lt q hi2)
                have l3 : i3 ≤ 10 := (nI_leI (b := 10) hi3 (by decide)).mp z6
                obtain ⟨U', hU⟩ := xl_flour2 l1 l2 l3 hw M uu
                exact ⟨_, M, M, U', xl_flour l1 l2 l3 hw M, hU, h⟩
            · obtain ⟨M1, c1, c2, c3⟩ := rn_6 h
              obtain ⟨M2, d1, d0, d2⟩ := c3 M1 (fun _ _ => rfl)
              have hr1 : rm M1 A := rm_fr hr (fun id hid => c2 id (by omega))
              have cL : f_X11_refuseLong (-6) M = some ((4000000000000000000 : Int64) - (-6 : Int32).toInt64, M1) := by simp only [f_X11_refuseLong, c1, mt_b2E]
              refine ⟨(4000000000000000000 : Int64) - (-6 : Int32).toInt64, M1, M2, uu, ?_, ?_, d2⟩
              · simp only [f_X11_flour, if_neg z1, if_neg z2, if_pos z3, if_neg z4, if_neg z5, if_neg z6, mt_b1E, mt_b2E, mt_ltE, mt_00, mt_10, nm1, nm2, nm3, nm4, nm6, if_true, if_false, mt_b2_eta]
                exact cL
              · simp only [f_X12_flour, if_neg z1, if_neg z2, if_pos z3, if_neg z4, if_neg z5, if_neg z6, d0, mt_b1E, mt_b2E, mt_ltE, mt_00, mt_10, nm1, nm2, nm3, nm4, nm6, if_true, if_false, mt_b2_eta]
      · obtain ⟨M1, c1, c2, c3⟩ := rn_4 h
        obtain ⟨M2, d1, d0, d2⟩ := c3 M1 (fun _ _ => rfl)
        have hr1 : rm M1 A := rm_fr hr (fun id hid => c2 id (by omega))
        have cL : f_X11_refuseLong (-4) M = some ((4000000000000000000 : Int64) - (-4 : Int32).toInt64, M1) := by simp only [f_X11_refuseLong, c1, mt_b2E]
        refine ⟨(4000000000000000000 : Int64) - (-4 : Int32).toInt64, M1, M2, uu, ?_, ?_, d2⟩
        · simp only [f_X11_flour, if_neg z1, if_neg z2, if_neg z3, mt_b1E, mt_b2E, mt_ltE, mt_00, mt_10, nm1, nm2, nm3, nm4, nm6, if_true, if_false, mt_b2_eta]
          exact cL
        · simp only [f_X12_flour, if_neg z1, if_neg z2, if_neg z3, d0, mt_b1E, mt_b2E, mt_ltE, mt_00, mt_10, nm1, nm2, nm3, nm4, nm6, if_true, if_false, mt_b2_eta]
theorem cl_bars (a b c : Int32) : ck (f_X11_bars a b c) (f_X12_bars a b c) := by
  intro M h
  obtain ⟨A, n, q, L, T, w, rr, hwf, hh, hr, hI, hH, hL, hW, hF⟩ := id h
  have hv : cv 13 M A := hh.2.2
  have hok := hwf.1
  have h7 := hok.1
  by_cases z1 : a < 2
  · obtain ⟨M1, c1, c2, c3⟩ := rn_4 h
    obtain ⟨M2, d1, d0, d2⟩ := c3 M1 (fun _ _ => rfl)
    have hr1 : rm M1 A := rm_fr hr (fun id hid => c2 id (by omega))
    refine ⟨-4, M1, M2, ?_, ?_, d2⟩
    · simp only [f_X11_bars, if_pos z1, mt_b1E, mt_b2E, mt_ltE, mt_00, mt_10, nm1, nm2, nm3, nm4, nm6, if_true, if_false, mt_b2_eta]
      exact c1
    · simp only [f_X12_bars, if_pos z1, mt_b1E, mt_b2E, mt_ltE, mt_00, mt_10, nm1, nm2, nm3, nm4, nm6, if_true, if_false, mt_b2_eta]
      exact d1
  · by_cases z2 : b < 1
    · obtain ⟨M1, c1, c2, c3⟩ := rn_4 h
      obtain ⟨M2, d1, d0, d2⟩ := c3 M1 (fun _ _ => rfl)
      have hr1 : rm M1 A := rm_fr hr (fun id hid => c2 id (by omega))
      refine ⟨-4, M1, M2, ?_, ?_, d2⟩
      · simp only [f_X11_bars, if_neg z1, if_pos z2, mt_b1E, mt_b2E, mt_ltE, mt_00, mt_10, nm1, nm2, nm3, nm4, nm6, if_true, if_false, mt_b2_eta]
        exact c1
      · simp only [f_X12_bars, if_neg z1, if_pos z2, mt_b1E, mt_b2E, mt_ltE, mt_00, mt_10, nm1, nm2, nm3, nm4, nm6, if_true, if_false, mt_b2_eta]
        exact d1
    · by_cases z3 : 0 ≤ c
      · by_cases z4 : 20 < a
        · obtain ⟨M1, c1, c2, c3⟩ := rn_6 h
          obtain ⟨M2, d1, d0, d2⟩ := c3 M1 (fun _ _ => rfl)
          have hr1 : rm M1 A := rm_fr hr (fun id hid => c2 id (by omega))
          refine ⟨-6, M1, M2, ?_, ?_, d2⟩
          · simp only [f_X11_bars, if_neg z1, if_neg z2, if_pos z3, if_pos z4, mt_b1E, mt_b2E, mt_ltE, mt_00, mt_10, nm1, nm2, nm3, nm4, nm6, if_true, if_false, mt_b2_eta]
            exact c1
          · simp only [f_X12_bars, if_neg z1, if_neg z2, if_pos z3, if_pos z4, mt_b1E, mt_b2E, mt_ltE, mt_00, mt_10, nm1, nm2, nm3, nm4, nm6, if_true, if_false, mt_b2_eta]
            exact d1
        · by_cases z5 : 9 < b
          · obtain ⟨M1, c1, c2, c3⟩ := rn_6 h
            obtain ⟨M2, d1, d0, d2⟩ := c3 M1 (fun _ _ => rfl)
            have hr1 : rm M1 A := rm_fr hr (fun id hid => c2 id (by omega))
            refine ⟨-6, M1, M2, ?_, ?_, d2⟩
            · simp only [f_X11_bars, if_neg z1, if_neg z2, if_pos z3, if_neg z4, if_pos z5, mt_b1E, mt_b2E, mt_ltE, mt_00, mt_10, nm1, nm2, nm3, nm4, nm6, if_true, if_false, mt_b2_eta]
              exact c1
            · simp only [f_X12_bars, if_neg z1, if_neg z2, if_pos z3, if_neg z4, if_pos z5, mt_b1E, mt_b2E, mt_ltE, mt_00, mt_10, nm1, nm2, nm3, nm4, nm6, if_true, if_false, mt_b2_eta]
              exact d1
          · by_cases z6 : c ≤ 99
            · have n1 : ¬ a < 0 := fun q => z1 (Int32.lt_trans q (by decide))
              have n2 : ¬ b < 0 := fun q => z2 (Int32.lt_trans q (by decide))
              obtain ⟨i1, hi1, rfl⟩ := nI_of n1
              obtain ⟨i2, hi2, rfl⟩ := nI_of n2
              obtain ⟨i3, hi3, rfl⟩ := nI_of (Int32.not_lt.mpr z3)
              have l1 : i1 ≤ 20 := Nat.not_lt.mp fun q => z4 (nI_lt q hi1)
              have l2 : i2 ≤ 9 := Nat.not_lt.mp fun q => z5 (nI_lt q hi2)
              have l3 : i3 ≤ 99 := (nI_leI (b := 99) hi3 (by decide)).mp z6
              have m1 : 2 ≤ i1 := Nat.not_lt.mp fun q => z1 (nI_lt (b := 2) q (by decide))
              have m2 : 1 ≤ i2 := Nat.not_lt.mp fun q => z2 (nI_lt (b := 1) q (by decide))
              exact ⟨_, M, M, xl_bars m1 l1 m2 l2 l3 M, xl_bars2 m1 l1 m2 l2 l3 M, h⟩
            · obtain ⟨M1, c1, c2, c3⟩ := rn_6 h
              obtain ⟨M2, d1, d0, d2⟩ := c3 M1 (fun _ _ => rfl)
              have hr1 : rm M1 A := rm_fr hr (fun id hid => c2 id (by omega))
              refine ⟨-6, M1, M2, ?_, ?_, d2⟩
              · simp only [f_X11_bars, if_neg z1, if_neg z2, if_pos z3, if_neg z4, if_neg z5, if_neg z6, mt_b1E, mt_b2E, mt_ltE, mt_00, mt_10, nm1, nm2, nm3, nm4, nm6, if_true, if_false, mt_b2_eta]
                exact c1
              · simp only [f_X12_bars, if_neg z1, if_neg z2, if_pos z3, if_neg z4, if_neg z5, if_neg z6, mt_b1E, mt_b2E, mt_ltE, mt_00, mt_10, nm1, nm2, nm3, nm4, nm6, if_true, if_false, mt_b2_eta]
                exact d1
      · obtain ⟨M1, c1, c2, c3⟩ := rn_4 h
        obtain ⟨M2, d1, d0, d2⟩ := c3 M1 (fun _ _ => rfl)
        have hr1 : rm M1 A := rm_fr hr (fun id hid => c2 id (by omega))
        refine ⟨-4, M1, M2, ?_, ?_, d2⟩
        · simp only [f_X11_bars, if_neg z1, if_neg z2, if_neg z3, mt_b1E, mt_b2E, mt_ltE, mt_00, mt_10, nm1, nm2, nm3, nm4, nm6, if_true, if_false, mt_b2_eta]
          exact c1
        · simp only [f_X12_bars, if_neg z1, if_neg z2, if_neg z3, mt_b1E, mt_b2E, mt_ltE, mt_00, mt_10, nm1, nm2, nm3, nm4, nm6, if_true, if_false, mt_b2_eta]
          exact d1
theorem rl_w {M M' : mt_M} (h : rl M) {w : Nat} {rr : Nat → Nat} (hW : rW M' w rr) (hc : ∀ id, id < 134 → id ≠ 0 → id ≠ 1 → M' id = M id) (h03 : M' 0 3 = M 0 3) (hl : ∀ id, id = 145 ∨ id = 146 → M' id = M id) (hrf : ∀ j, j < 63 → rf M' j = rf M j) (h160 : ∀ j, (j < 63 ∨ 195 ≤ j) → M' 160 j = M 160 j) (hi : ∀ id k, id = 148 ∨ id = 156 → M' id k = M id k) (hf : ∀ k, k = 16 ∨ k = 20 ∨ k = 23 → M' 147 k = M 147 k) : rl M' := by
  obtain ⟨A, n, q, L, T, w0, rr0, hwf, hh, hr, hI, hH, hL, -, hF⟩ := h
  refine ⟨A, n, q, L, T, w, rr, hwf, hv_frame hh (fun id a b => hc id (by omega) (by omega) (by omega)), rm_eq hrf hr, ?_, ?_, ?_, hW, fun k hk => by rw [hc 2 (by decide) (by decide) (by decide), hi 148 k (Or.inl rfl)]; exact hF k hk⟩
  · exact rI_eq hI h03 (hf 20 (by decide)) (fun id a b => hc id (by omega) (by omega) (by omega)) (fun j hj => h160 j (Or.inl hj))
  · exact rH_eq hH (hc 43 (by decide) (by decide) (by decide)) (hf 23 (by decide)) (fun id a b => hc id (by omega) (by omega) (by omega)) (fun j hj => h160 j (Or.inr hj))
  · exact rL_eq hL (hl 145 (Or.inl rfl)) (hl 146 (Or.inr rfl)) (hf 16 (by decide)) (fun k => hi 156 k (Or.inr rfl))
theorem rf_fr {M M' : mt_M} (hf : ∀ id, 149 ≤ id → id ≤ 155 → M' id = M id) (h7 : ∀ k, (k = 8 ∨ k = 9 ∨ k = 10 ∨ k = 11) → M' 147 k = M 147 k) : ∀ j, j < 63 → rf M' j = rf M j := by
  intro j hj
  unfold rf
  rw [hf 149 (by decide) (by decide), hf 150 (by decide) (by decide), hf 151 (by decide) (by decide), hf 152 (by decide) (by decide), hf 153 (by decide) (by decide), hf 154 (by decide) (by decide), hf 155 (by decide) (by decide)]
  split; rfl
  split; rfl
  split; rfl
  split; rfl
  split; rfl
  split; rfl
  split; rfl
  exact h7 _ (by omega)
theorem cl_row (v : Int32) : ck (f_X11_row v) (f_X12_row v) := by
  intro M h
  obtain ⟨A, n, q, L, T, w, rr, hwf, hh, hr, hI, hH, hL, hW, hF⟩ := id h
  have hv : cv 13 M A := hh.2.2
  have hok := hwf.1
  have h7 := hok.1
  obtain ⟨w1, w2, w3, w4, w5, w6⟩ := hW
  obtain ⟨r, b1, b2, hb⟩ := bo_c v (lo := 0) (hi := 99) 0 99 rfl rfl (by decide) (by decide)
  have z : ((1 : Int32) = 0) = False := eq_false (by decide)
  rcases hb with (rfl | rfl) | ⟨rfl, j, j1, j2, rfl⟩
  · by_cases q : (Int32.ofNat 12) ≤ M 0 8
    · obtain ⟨M1, c1, c2, c3⟩ := rn_4 h
      obtain ⟨M2, d1, d0, d2⟩ := c3 M1 (fun _ _ => rfl)
      have hr1 : rm M1 A := rm_fr hr (fun id hid => c2 id (by omega))
      refine ⟨-4, M1, M2, ?_, ?_, d2⟩
      · simp only [f_X11_row, b1, if_pos q, f_X11_firstOf, mt_b1E, mt_b2E, mt_ltE, mt_00, mt_10, nm1, nm2, nm3, nm4, nm6, if_true, if_false, mt_b2_eta]
        exact c1
      · simp only [f_X12_row, b2, mt_b1E, mt_b2E, mt_ltE, mt_00, mt_10, nm1, nm2, nm3, nm4, nm6, if_true, if_false, mt_b2_eta]
        exact d1
    · obtain ⟨M1, c1, c2, c3⟩ := rn_4 h
      obtain ⟨M2, d1, d0, d2⟩ := c3 M1 (fun _ _ => rfl)
      have hr1 : rm M1 A := rm_fr hr (fun id hid => c2 id (by omega))
      refine ⟨-4, M1, M2, ?_, ?_, d2⟩
      · simp only [f_X11_row, b1, if_neg q, z, f_X11_firstOf, mt_b1E, mt_b2E, mt_ltE, mt_00, mt_10, nm1, nm2, nm3, nm4, nm6, if_true, if_false, mt_b2_eta]
        exact c1
      · simp only [f_X12_row, b2, mt_b1E, mt_b2E, mt_ltE, mt_00, mt_10, nm1, nm2, nm3, nm4, nm6, if_true, if_false, mt_b2_eta]
        exact d1
  · by_cases q : (Int32.ofNat 12) ≤ M 0 8
    · obtain ⟨M1, c1, c2, c3⟩ := rn_6 h
      obtain ⟨M2, d1, d0, d2⟩ := c3 M1 (fun _ _ => rfl)
      have hr1 : rm M1 A := rm_fr hr (fun id hid => c2 id (by omega))
      refine ⟨-6, M1, M2, ?_, ?_, d2⟩
      · simp only [f_X11_row, b1, if_pos q, f_X11_firstOf, mt_b1E, mt_b2E, mt_ltE, mt_00, mt_10, nm1, nm2, nm3, nm4, nm6, if_true, if_false, mt_b2_eta]
        exact c1
      · simp only [f_X12_row, b2, mt_b1E, mt_b2E, mt_ltE, mt_00, mt_10, nm1, nm2, nm3, nm4, nm6, if_true, if_false, mt_b2_eta]
        exact d1
    · obtain ⟨M1, c1, c2, c3⟩ := rn_6 h
      obtain ⟨M2, d1, d0, d2⟩ := c3 M1 (fun _ _ => rfl)
      have hr1 : rm M1 A := rm_fr hr (fun id hid => c2 id (by omega))
      refine ⟨-6, M1, M2, ?_, ?_, d2⟩
      · simp only [f_X11_row, b1, if_neg q, z, f_X11_firstOf, mt_b1E, mt_b2E, mt_ltE, mt_00, mt_10, nm1, nm2, nm3, nm4, nm6, if_true, if_false, mt_b2_eta]
        exact c1
      · simp only [f_X12_row, b2, mt_b1E, mt_b2E, mt_ltE, mt_00, mt_10, nm1, nm2, nm3, nm4, nm6, if_true, if_false, mt_b2_eta]
        exact d1
  · by_cases q : w < 12
    · have q1 : ¬ (Int32.ofNat 12) ≤ nI w := nI_ge q (by omega)
      have q2 : (M 147 27 = (12 : Int32)) = False := eq_false (by rw [w3]; intro e; have := (nI_eq (b := 12) (by omega) (by decide)).mp e; omega)
      have i1 : vp_in (nI w) 12 := vp_in_nI (by omega) (by omega)
      have c1 : (nI w).toNatClampNeg = w := nI_clamp (by omega)
      have q3 : (nI w = (12 : Int32)) = False := by rw [← w3]; exact q2
      have eM1 : mt_wr M 1 w (nI j) 0 8 = nI w := by rw [mt_wr_ne (by decide)]; exact w2
      have eM2 : mt_wr (mt_wr (mt_wr M 1 w (nI j)) 0 8 (nI (w + 1))) 162 w (nI j) 147 27 = nI w := by rw [mt_wr_ne (by decide), mt_wr_ne (by decide), mt_wr_ne (by decide)]; exact w3
      have eM0 : mt_wr (mt_wr M 1 w (nI j)) 0 8 (nI (w + 1)) 147 27 = nI w := by rw [mt_wr_ne (by decide), mt_wr_ne (by decide)]; exact w3
      refine ⟨nI (w + 1), mt_wr (mt_wr M 1 w (nI j)) 0 8 (nI (w + 1)), mt_wr (mt_wr (mt_wr (mt_wr M 1 w (nI j)) 0 8 (nI (w + 1))) 162 w (nI j)) 147 27 (nI (w + 1)), ?_, ?_, ?_⟩
      · simp only [f_X11_row, b1, if_neg q1, z, f_X11_firstOf, w2, mt_ci_t i1, c1, eM1, nI_1, mt_wr_s, mt_b1E, mt_b2E, mt_ltE, mt_00, mt_10, nm1, nm2, nm3, nm4, nm6, if_true, if_false, mt_b2_eta]
      · simp only [f_X12_row, b2, eM0, q3, mt_ci_t i1, c1, eM2, nI_1, mt_wr_s, mt_b1E, mt_b2E, mt_ltE, mt_00, mt_10, nm1, nm2, nm3, nm4, nm6, if_true, if_false, mt_b2_eta]
      · refine rl_w h (w := w + 1) (rr := fun k => if k = w then j else rr k) ⟨by omega, ?_, mt_wr_s _ _ _ _, fun k hk => ?_, fun k hk => ?_, fun k hk => ?_⟩ (fun id a1 a2 a3 => ?_) ?_ (fun id a1 => ?_) (rf_fr (fun id a1 a2 => ?_) (fun k a1 => ?_)) (fun k a1 => ?_) (fun id k a1 => ?_) (fun k a1 => ?_)
        · rw [mt_wr_ne (by decide), mt_wr_ne (by decide), mt_wr_s]
        · rw [mt_wr_ne (by decide), mt_wr_ne (by decide), mt_wr_ne (by decide)]
          by_cases y : k = w
          · subst y; rw [mt_wr_s]; show nI j = nI (if k = k then j else rr k); rw [if_pos rfl]
          · rw [mt_wr_n y]; show M 1 k = nI (if k = w then j else rr k); rw [if_neg y]; exact w4 k (by omega)
        · rw [mt_wr_ne (by decide)]
          by_cases y : k = w
          · subst y; rw [mt_wr_s]; show nI j = nI (if k = k then j else rr k); rw [if_pos rfl]
          · rw [mt_wr_n y, mt_wr_ne (by decide), mt_wr_ne (by decide)]; show M 162 k = nI (if k = w then j else rr k); rw [if_neg y]; exact w5 k (by omega)
        · show (if k = w then j else rr k) ≤ 99
          by_cases y : k = w
          · rw [if_pos y]; exact j2
          · rw [if_neg y]; exact w6 k (by omega)
        · rw [mt_wr_ne (by omega), mt_wr_ne (by omega), mt_wr_ne a2, mt_wr_ne a3]
        · rw [mt_wr_ne (by decide), mt_wr_ne (by decide), mt_wr_n (by decide), mt_wr_ne (by decide)]
        · rw [mt_wr_ne (by omega), mt_wr_ne (by omega), mt_wr_ne (by omega), mt_wr_ne (by omega)]
        · rw [mt_wr_ne (by omega), mt_wr_ne (by omega), mt_wr_ne (by omega), mt_wr_ne (by omega)]
        · rw [mt_wr_n (by omega), mt_wr_ne (by decide), mt_wr_ne (by decide), mt_wr_ne (by decide)]
        · rw [mt_wr_ne (by decide), mt_wr_ne (by decide), mt_wr_ne (by decide), mt_wr_ne (by decide)]
        · rw [mt_wr_ne (by omega), mt_wr_ne (by omega), mt_wr_ne (by omega), mt_wr_ne (by omega)]
        · rw [mt_wr_n (by omega), mt_wr_ne (by decide), mt_wr_ne (by decide), mt_wr_ne (by decide)]
    · have q1 : (Int32.ofNat 12) ≤ M 0 8 := by rw [w2]; exact nI_le (by omega) (by omega)
      obtain ⟨M1, c1, c2, c3⟩ := rn_6 h
      obtain ⟨M2, d1, d0, d2⟩ := c3 M1 (fun _ _ => rfl)
      have q2 : (M1 147 27 = (12 : Int32)) = True := eq_true (by rw [c2 147 (by decide), w3, show w = 12 by omega]; rfl)
      refine ⟨-6, M1, M2, ?_, ?_, d2⟩
      · simp only [f_X11_row, b1, if_pos q1, f_X11_firstOf, mt_b1E, mt_b2E, mt_ltE, mt_00, mt_10, nm1, nm2, nm3, nm4, nm6, if_true, if_false, mt_b2_eta]
        exact c1
      · simp only [f_X12_row, b2, q2, mt_b1E, mt_b2E, mt_ltE, mt_00, mt_10, nm1, nm2, nm3, nm4, nm6, if_true, if_false, mt_b2_eta]
        exact d1
theorem cl_clear : ck f_X11_clear f_X12_clear := by
  intro M h
  obtain ⟨A, n, q, L, T, w, rr, hwf, hh, hr, hI, hH, hL, hW, hF⟩ := id h
  have hv : cv 13 M A := hh.2.2
  have hok := hwf.1
  have h7 := hok.1
  obtain ⟨w1, w2, w3, w4, w5, w6⟩ := hW
  have e27 : mt_wr M 0 8 0 147 27 = nI w := by rw [mt_wr_ne (by decide)]; exact w3
  refine ⟨nI w, mt_wr M 0 8 0, mt_wr (mt_wr M 0 8 0) 147 27 0, ?_, ?_, ?_⟩
  · simp only [f_X11_clear, w2, mt_ltE]
  · simp only [f_X12_clear, e27, mt_ltE]
  · refine rl_w h (w := 0) (rr := rr) ⟨by omega, ?_, mt_wr_s _ _ _ _, fun k hk => by omega, fun k hk => by omega, fun k hk => by omega⟩ (fun id a1 a2 a3 => ?_) ?_ (fun id a1 => ?_) (rf_fr (fun id a1 a2 => ?_) (fun k a1 => ?_)) (fun k a1 => ?_) (fun id k a1 => ?_) (fun k a1 => ?_)
    · rw [mt_wr_ne (by decide), mt_wr_s]; rfl
    · rw [mt_wr_ne (by omega), mt_wr_ne a2]
    · rw [mt_wr_ne (by decide), mt_wr_n (by decide)]
    · rw [mt_wr_ne (by omega), mt_wr_ne (by omega)]
    · rw [mt_wr_ne (by omega), mt_wr_ne (by omega)]
    · rw [mt_wr_n (by omega), mt_wr_ne (by decide)]
    · rw [mt_wr_ne (by decide), mt_wr_ne (by decide)]
    · rw [mt_wr_ne (by omega), mt_wr_ne (by omega)]
    · rw [mt_wr_n (by omega), mt_wr_ne (by decide)]
theorem cl_judge (t : Int32) : ck (f_X11_judge t) (f_X12_judge t) := by
  intro M h
  obtain ⟨A, n, q, L, T, w, rr, hwf, hh, hr, hI, hH, hL, hW, hF⟩ := id h
  have hv : cv 13 M A := hh.2.2
  have hok := hwf.1
  have h7 := hok.1
  obtain ⟨w1, w2, w3, w4, w5, w6⟩ := hW
  rcases th_c h7 hv hr t with ⟨e1, e0⟩ | ⟨x, hx, rfl⟩
  · obtain ⟨M1, c1, c2, c3⟩ := rn_1 h
    obtain ⟨M2, d1, d0, d2⟩ := c3 M1 (fun _ _ => rfl)
    have hr1 : rm M1 A := rm_fr hr (fun id hid => c2 id (by omega))
    have e2 : f_X12_isThing t M1 = some 0 := by
      unfold f_X12_isThing at e0 ⊢
      rw [c2 147 (by decide)]
      exact e0
    refine ⟨-1, M1, M2, ?_, ?_, d2⟩
    · simp only [f_X11_judge, e1, mt_b1E, mt_b2E, mt_ltE, mt_00, mt_10, nm1, nm2, nm3, nm4, nm6, if_true, if_false, mt_b2_eta]
      exact c1
    · simp only [f_X12_judge, e2, mt_b1E, mt_b2E, mt_ltE, mt_00, mt_10, nm1, nm2, nm3, nm4, nm6, if_true, if_false, mt_b2_eta]
      exact d1
  · obtain ⟨M1, c1, c2⟩ := xn_judge (rr := rr) (n := w) hv hok hx w1 w2 w4 w6
    have o1 : ∀ id, id ≠ 0 → (id < 134 ∨ 145 ≤ id) → mt_wr M1 0 8 0 id = M id := fun id a b => (mt_wr_ne a).trans (c2 id b)
    have hr1 : rm (mt_wr M1 0 8 0) A := rm_fr hr (fun id hid => o1 id (by omega) (by omega))
    obtain ⟨M2, d1, d2⟩ := xr_judge (rr := rr) (n := w) hr1 hok hx w1 (by rw [o1 147 (by decide) (by decide)]; exact w3) (fun k hk => by rw [o1 162 (by decide) (by decide)]; exact w5 k hk) w6
    obtain ⟨y1, y2, y3, y4, y5⟩ := d2
    refine ⟨_, _, M2, c1, d1, ?_⟩
    have o2 : ∀ id k, id < 134 → id ≠ 0 → M2 id k = M id k := fun id k a b => by rw [y5 id k (by omega), mt_wr_ne (by omega), o1 id b (Or.inl a)]
    refine rl_w h (w := 0) (rr := rr) ⟨by omega, ?_, ?_, fun k hk => by omega, fun k hk => by omega, fun k hk => by omega⟩ (fun id a1 a2 a3 => funext fun k => o2 id k a1 a2) ?_ (fun id a1 => funext fun k => ?_) (fun j hj => ?_) (fun k a1 => ?_) (fun id k a1 => ?_) (fun k a1 => ?_)
    · rw [y5 0 8 (by decide), mt_wr_ne (by decide), mt_wr_s]; rfl
    · rw [y4 27 (by decide), mt_wr_s]; rfl
    · rw [y5 0 3 (by decide), mt_wr_ne (by decide), mt_wr_n (by decide), c2 0 (by decide)]
    · rw [y5 id k (by omega), mt_wr_ne (by omega), o1 id (by omega) (by omega)]
    · rw [y1 j hj]
      exact rf_fr (fun id a1 a2 => by rw [mt_wr_ne (by omega), o1 id (by omega) (by omega)]) (fun k a1 => by rw [mt_wr_n (by omega), o1 147 (by decide) (by decide)]) j hj
    · rw [y2 k (by omega), mt_wr_ne (by decide), o1 160 (by decide) (by decide)]
    · rw [y3 id k (by omega), mt_wr_ne (by omega), o1 id (by omega) (by omega)]
    · rw [y4 k (by omega), mt_wr_n (by omega), o1 147 (by decide) (by decide)]
theorem cl_feed (v : Int32) : ck (f_X11_feed v) (f_X12_feed v) := by
  intro M h
  obtain ⟨A, n, q_, L, T, w, rr, hwf, hh, hr, hI, hH, hL, hW, hF⟩ := id h
  have hv : cv 13 M A := hh.2.2
  have hok := hwf.1
  have h7 := hok.1
  obtain ⟨L1, L2, L3, L4, L5, L6⟩ := hL
  have z : ((1 : Int32) = 0) = False := eq_false (by decide)
  have ef : f_X7_isFull M = some (if L < 96 then 0 else 1) := by
    unfold f_X7_isFull
    rw [L2, mi_96]
    by_cases q : L < 96
    · rw [if_pos (nI_lt q (by omega)), if_pos q]
    · rw [if_neg (nI_nlt (by omega) (by omega)), if_neg q]
  obtain ⟨r, b1, b2, hb⟩ := bo_c v (lo := 0) (hi := 255) 0 255 rfl rfl (by decide) (by decide)
  by_cases q : L < 96
  · rw [if_pos q] at ef
    rcases hb with (rfl | rfl) | ⟨rfl, j, j1, j2, rfl⟩
    · obtain ⟨M1, c1, c2, c3⟩ := rn_4 h
      obtain ⟨M2, d1, d0, d2⟩ := c3 M1 (fun _ _ => rfl)
      have hr1 : rm M1 A := rm_fr hr (fun id hid => c2 id (by omega))
      refine ⟨-4, M1, M2, ?_, ?_, d2⟩
      · simp only [f_X11_feed, b1, ef, z, f_X11_firstOf, mt_b1E, mt_b2E, mt_ltE, mt_00, mt_10, nm1, nm2, nm3, nm4, nm6, if_true, if_false, mt_b2_eta]
        exact c1
      · simp only [f_X12_feed, b2, mt_b1E, mt_b2E, mt_ltE, mt_00, mt_10, nm1, nm2, nm3, nm4, nm6, if_true, if_false, mt_b2_eta]
        exact d1
    · obtain ⟨M1, c1, c2, c3⟩ := rn_6 h
      obtain ⟨M2, d1, d0, d2⟩ := c3 M1 (fun _ _ => rfl)
      have hr1 : rm M1 A := rm_fr hr (fun id hid => c2 id (by omega))
      refine ⟨-6, M1, M2, ?_, ?_, d2⟩
      · simp only [f_X11_feed, b1, ef, z, f_X11_firstOf, mt_b1E, mt_b2E, mt_ltE, mt_00, mt_10, nm1, nm2, nm3, nm4, nm6, if_true, if_false, mt_b2_eta]
        exact c1
      · simp only [f_X12_feed, b2, mt_b1E, mt_b2E, mt_ltE, mt_00, mt_10, nm1, nm2, nm3, nm4, nm6, if_true, if_false, mt_b2_eta]
        exact d1
    · have i1 : vp_in (nI L) 96 := vp_in_nI (by omega) (by omega)
      have c1 : (nI L).toNatClampNeg = L := nI_clamp (by omega)
      have q3 : (nI L = (96 : Int32)) = False := eq_false (fun e => by have := (nI_eq (b := 96) (by omega) (by decide)).mp e; omega)
      have eM1 : mt_wr M 146 L (nI j) 145 1 = nI L := by rw [mt_wr_ne (by decide)]; exact L2
      have eM2 : mt_wr (mt_wr (mt_wr M 146 L (nI j)) 145 1 (nI (L + 1))) 156 L (nI j) 147 16 = nI L := by rw [mt_wr_ne (by decide), mt_wr_ne (by decide), mt_wr_ne (by decide)]; exact L3
      have eM0 : mt_wr (mt_wr M 146 L (nI j)) 145 1 (nI (L + 1)) 147 16 = nI L := by rw [mt_wr_ne (by decide), mt_wr_ne (by decide)]; exact L3
      refine ⟨nI (L + 1), mt_wr (mt_wr M 146 L (nI j)) 145 1 (nI (L + 1)), mt_wr (mt_wr (mt_wr (mt_wr M 146 L (nI j)) 145 1 (nI (L + 1))) 156 L (nI j)) 147 16 (nI (L + 1)), ?_, ?_, ?_⟩
      · simp only [f_X11_feed, b1, ef, z, f_X11_firstOf, f_X7_add, L2, mt_ci_t i1, c1, eM1, nI_1, mt_wr_s, mt_b1E, mt_b2E, mt_ltE, mt_00, mt_10, nm1, nm2, nm3, nm4, nm6, if_true, if_false, mt_b2_eta]
      · simp only [f_X12_feed, b2, eM0, q3, mt_ci_t i1, c1, eM2, nI_1, mt_wr_s, mt_b1E, mt_b2E, mt_ltE, mt_00, mt_10, nm1, nm2, nm3, nm4, nm6, if_true, if_false, mt_b2_eta]
      · have o : ∀ id k, id ≠ 145 → id ≠ 146 → id ≠ 156 → (id ≠ 147 ∨ k ≠ 16) → mt_wr (mt_wr (mt_wr (mt_wr M 146 L (nI j)) 145 1 (nI (L + 1))) 156 L (nI j)) 147 16 (nI (L + 1)) id k = M id k := fun id k a1 a2 a3 a4 => by
          rw [mt_wr_ne2 a4, mt_wr_ne a3, mt_wr_ne a1, mt_wr_ne a2]
        refine ⟨A, n, q_, L + 1, fun k => if k = L then j else T k, w, rr, hwf, hv_frame hh (fun id a b => funext fun k => o id k (by omega) (by omega) (by omega) (by omega)), rm_eq (rf_fr (fun id a1 a2 => funext fun k => o id k (by omega) (by omega) (by omega) (by omega)) (fun k a1 => o 147 k (by decide) (by decide) (by decide) (by omega))) hr, rI_eq hI (o 0 3 (by decide) (by decide) (by decide) (by decide)) (o 147 20 (by decide) (by decide) (by decide) (by decide)) (fun id a b => funext fun k => o id k (by omega) (by omega) (by omega) (by omega)) (fun k _ => o 160 k (by decide) (by decide) (by decide) (by omega)), rH_eq hH (funext fun k => o 43 k (by decide) (by decide) (by decide) (by omega)) (o 147 23 (by decide) (by decide) (by decide) (by decide)) (fun id a b => funext fun k => o id k (by omega) (by omega) (by omega) (by omega)) (fun k _ => o 160 k (by decide) (by decide) (by decide) (by omega)), ⟨by omega, ?_, mt_wr_s _ _ _ _, fun k hk => ?_, fun k hk => ?_, fun k hk => ?_⟩, rW_eq hW (o 0 8 (by decide) (by decide) (by decide) (by decide)) (o 147 27 (by decide) (by decide) (by decide) (by decide)) (funext fun k => o 1 k (by decide) (by decide) (by decide) (by omega)) (fun k => o 162 k (by decide) (by decide) (by decide) (by omega)), fun k hk => by rw [o 2 k (by decide) (by decide) (by decide) (by omega), o 148 k (by decide) (by decide) (by decide) (by omega)]; exact hF k hk⟩
        · rw [mt_wr_ne (by decide), mt_wr_ne (by decide), mt_wr_s]
        · rw [mt_wr_ne (by decide), mt_wr_ne (by decide), mt_wr_ne (by decide)]
          by_cases y : k = L
          · subst y; rw [mt_wr_s]; show nI j = nI (if k = k then j else T k); rw [if_pos rfl]
          · rw [mt_wr_n y]; show M 146 k = nI (if k = L then j else T k); rw [if_neg y]; exact L4 k (by omega)
        · rw [mt_wr_ne (by decide)]
          by_cases y : k = L
          · subst y; rw [mt_wr_s]; show nI j = nI (if k = k then j else T k); rw [if_pos rfl]
          · rw [mt_wr_n y, mt_wr_ne (by decide), mt_wr_ne (by decide)]; show M 156 k = nI (if k = L then j else T k); rw [if_neg y]; exact L5 k (by omega)
        · show (if k = L then j else T k) ≤ 255
          by_cases y : k = L
          · rw [if_pos y]; exact j2
          · rw [if_neg y]; exact L6 k (by omega)
  · rw [if_neg q] at ef
    rcases hb with (rfl | rfl) | ⟨rfl, j, j1, j2, rfl⟩
    · obtain ⟨M1, c1, c2, c3⟩ := rn_4 h
      obtain ⟨M2, d1, d0, d2⟩ := c3 M1 (fun _ _ => rfl)
      have hr1 : rm M1 A := rm_fr hr (fun id hid => c2 id (by omega))
      refine ⟨-4, M1, M2, ?_, ?_, d2⟩
      · simp only [f_X11_feed, b1, ef, z, f_X11_firstOf, mt_b1E, mt_b2E, mt_ltE, mt_00, mt_10, nm1, nm2, nm3, nm4, nm6, if_true, if_false, mt_b2_eta]
        exact c1
      · simp only [f_X12_feed, b2, mt_b1E, mt_b2E, mt_ltE, mt_00, mt_10, nm1, nm2, nm3, nm4, nm6, if_true, if_false, mt_b2_eta]
        exact d1
    · obtain ⟨M1, c1, c2, c3⟩ := rn_6 h
      obtain ⟨M2, d1, d0, d2⟩ := c3 M1 (fun _ _ => rfl)
      have hr1 : rm M1 A := rm_fr hr (fun id hid => c2 id (by omega))
      refine ⟨-6, M1, M2, ?_, ?_, d2⟩
      · simp only [f_X11_feed, b1, ef, z, f_X11_firstOf, mt_b1E, mt_b2E, mt_ltE, mt_00, mt_10, nm1, nm2, nm3, nm4, nm6, if_true, if_false, mt_b2_eta]
        exact c1
      · simp only [f_X12_feed, b2, mt_b1E, mt_b2E, mt_ltE, mt_00, mt_10, nm1, nm2, nm3, nm4, nm6, if_true, if_false, mt_b2_eta]
        exact d1
    · obtain ⟨M1, c1, c2, c3⟩ := rn_6 h
      obtain ⟨M2, d1, d0, d2⟩ := c3 M1 (fun _ _ => rfl)
      have q2 : (M1 147 16 = (96 : Int32)) = True := eq_true (by rw [c2 147 (by decide), L3, show L = 96 by omega]; rfl)
      refine ⟨-6, M1, M2, ?_, ?_, d2⟩
      · simp only [f_X11_feed, b1, ef, z, f_X11_firstOf, mt_b1E, mt_b2E, mt_ltE, mt_00, mt_10, nm1, nm2, nm3, nm4, nm6, if_true, if_false, mt_b2_eta]
        exact c1
      · simp only [f_X12_feed, b2, q2, mt_b1E, mt_b2E, mt_ltE, mt_00, mt_10, nm1, nm2, nm3, nm4, nm6, if_true, if_false, mt_b2_eta]
        exact d1

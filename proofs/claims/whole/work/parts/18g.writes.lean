/-! THE CALLS, ONE BY ONE: what changes the house -/
theorem rl_tail {M M4 M6 : mt_M} (h : rl M) {A : hs_A} {n q : Nat} {B : Nat → hs_A} (hwf : hs_wf A) (hh : hv 10 M4 A) (hr : rm M6 A) (hC4 : hC M4 n q B) (hR6 : hR M6 n B) (oC : ∀ id, (id < 10 ∨ 21 ≤ id) → (id < 43 ∨ 133 ≤ id) → M4 id = M id) (o6 : ∀ id k, (id < 147 ∨ id = 148 ∨ id = 156 ∨ id = 162 ∨ (id = 147 ∧ (k = 16 ∨ k = 20 ∨ k = 27))) → M6 id k = M4 id k) (h160 : ∀ j, j < 63 → M6 160 j = M4 160 j) : rl M6 := by
  have o : ∀ id, id < 147 → M6 id = M4 id := fun id a => funext fun k => o6 id k (Or.inl a)
  refine rl_ch h hwf (hv_frame hh (fun id a b => o id (by omega))) hr (rH_mk (hC_eq hC4 (o 43 (by decide)) (fun id a b => o id (by omega))) hR6) (fun id a => by rw [o id (by omega), oC id (by omega) (by omega)]) (fun j a => by rw [h160 j a, oC 160 (by decide) (by decide)]) (fun id k a => by rw [o6 id k (by omega), oC id (by omega) (by omega)]) (fun k a => by rw [o6 147 k (by omega), oC 147 (by decide) (by decide)])
theorem cl_stock (t v : Int32) : ck (f_X11_stock t v) (f_X12_stock t v) := by
  intro M h
  obtain ⟨A, n, q, L, T, w, rr, hwf, hh, hr, hI, hH, hL, hW, hF⟩ := id h
  have hv : cv 13 M A := hh.2.2
  have hok := hwf.1
  have h7 := hok.1
  rcases th_c h7 hv hr t with ⟨e1, e0⟩ | ⟨x, hx, rfl⟩
  · obtain ⟨M1, c1, c2, c3⟩ := rn_1 h
    obtain ⟨M2, d1, d0, d2⟩ := c3 M1 (fun _ _ => rfl)
    have hr1 : rm M1 A := rm_fr hr (fun id hid => c2 id (by omega))
    have e2 : f_X12_isThing t M1 = some 0 := by
      unfold f_X12_isThing at e0 ⊢
      rw [c2 147 (by decide)]
      exact e0
    refine ⟨-1, M1, M2, ?_, ?_, d2⟩
    · simp only [f_X11_stock, f_X11_refusalOf, e1, mt_b1E, mt_b2E, mt_ltE, mt_00, mt_10, nm1, nm2, nm3, nm4, nm6, if_true, if_false, mt_b2_eta]
      exact c1
    · simp only [f_X12_stock, e2, mt_b1E, mt_b2E, mt_ltE, mt_00, mt_10, nm1, nm2, nm3, nm4, nm6, if_true, if_false, mt_b2_eta]
      exact d1
  · obtain ⟨r, b1, b2, hb⟩ := bo_c v (lo := 0) (hi := 99) 0 99 rfl rfl (by decide) (by decide)
    rcases hb with (rfl | rfl) | ⟨rfl, j, j1, j2, rfl⟩
    · obtain ⟨M1, c1, c2, c3⟩ := rn_4 h
      obtain ⟨M2, d1, d0, d2⟩ := c3 M1 (fun _ _ => rfl)
      have hr1 : rm M1 A := rm_fr hr (fun id hid => c2 id (by omega))
      have e1 := xc_hasT hv h7 hx
      have e2 := xm_isT hr1 h7 hx
      refine ⟨-4, M1, M2, ?_, ?_, d2⟩
      · simp only [f_X11_stock, f_X11_refusalOf, e1, b1, mt_b1E, mt_b2E, mt_ltE, mt_00, mt_10, nm1, nm2, nm3, nm4, nm6, if_true, if_false, mt_b2_eta]
        exact c1
      · simp only [f_X12_stock, e2, b2, mt_b1E, mt_b2E, mt_ltE, mt_00, mt_10, nm1, nm2, nm3, nm4, nm6, if_true, if_false, mt_b2_eta]
        exact d1
    · obtain ⟨M1, c1, c2, c3⟩ := rn_6 h
      obtain ⟨M2, d1, d0, d2⟩ := c3 M1 (fun _ _ => rfl)
      have hr1 : rm M1 A := rm_fr hr (fun id hid => c2 id (by omega))
      have e1 := xc_hasT hv h7 hx
      have e2 := xm_isT hr1 h7 hx
      refine ⟨-6, M1, M2, ?_, ?_, d2⟩
      · simp only [f_X11_stock, f_X11_refusalOf, e1, b1, mt_b1E, mt_b2E, mt_ltE, mt_00, mt_10, nm1, nm2, nm3, nm4, nm6, if_true, if_false, mt_b2_eta]
        exact c1
      · simp only [f_X12_stock, e2, b2, mt_b1E, mt_b2E, mt_ltE, mt_00, mt_10, nm1, nm2, nm3, nm4, nm6, if_true, if_false, mt_b2_eta]
        exact d1
    · have e1 := xc_hasT hv h7 hx
      obtain ⟨B, hBC, hBR⟩ := rH_sp hH
      obtain ⟨M3, k1, k2, k3⟩ := xk_keep hh hwf hBC
      have frk := fr_X3_keep 10 M k1
      have s1 : f_X0_stockOf 13 (nI x) M3 = some (nI (A 3 x)) := (xc_row k2.2.2 hok hx).2.2.1
      obtain ⟨M4, p1, p2, p3⟩ := hc_put (h := 10) k2 hwf hx j2
      have p1 : f_X0_putStock 13 (nI x) (nI j) M3 = some M4 := p1
      have frp := fr_X0_putStock 13 (nI x) (nI j) M3 p1
      have oC : ∀ id, (id < 10 ∨ 21 ≤ id) → (id < 43 ∨ 133 ≤ id) → M4 id = M id := fun id a b => by rw [frp id (by omega), frk id b]
      have hr4 : rm M4 A := rm_fr hr (fun id a => oC id (by omega) (by omega))
      have hR4 : hR M4 n B := hR_eq hBR (by rw [oC 147 (by decide) (by decide)]) (fun j _ => by rw [oC 160 (by decide) (by decide)])
      have hC4 : hC M4 (hN n) ((q + 1) % 8) (hB A B n) := hC_eq k3 (frp 43 (by decide)) (fun id a b => frp id (by omega))
      obtain ⟨M5, g1, g2, g3, g4, g5⟩ := xm_keeps hr4 hR4
      have e2 := xm_isT hr4 h7 hx
      have e152 : M5 152 x = nI (A 3 x) := (g2.2 x hx (by omega)).2.2.2.1
      have hin : vp_in (nI x) 7 := vp_in_nI (by omega) (by omega)
      have hcl : (nI x).toNatClampNeg = x := nI_clamp (by omega)
      have o6 : ∀ id k, id ≠ 160 → (id ≠ 147 ∨ (k ≠ 21 ∧ k ≠ 22 ∧ k ≠ 23)) → id ≠ 152 → mt_wr M5 152 x (nI j) id k = M4 id k := fun id k a b c => by rw [mt_wr_ne c, g5 id k a b]
      refine ⟨nI (A 3 x), M4, mt_wr M5 152 x (nI j), ?_, ?_, rl_tail h p3 p2 (rm_w152 g2 x j) hC4 (hR_eq g3 (by rw [mt_wr_ne (by decide)]) (fun k _ => by rw [mt_wr_ne (by decide)])) oC (fun id k a => o6 id k (by omega) (by omega) (by omega)) (fun k a => by rw [mt_wr_ne (by decide), g4 k (by omega)])⟩
      · simp only [f_X11_stock, f_X11_refusalOf, e1, b1, k1, s1, p1, mt_b1E, mt_b2E, mt_ltE, mt_00, mt_10, nm1, nm2, nm3, nm4, nm6, if_true, if_false, mt_b2_eta]
      · simp only [f_X12_stock, e2, b2, g1, mt_ci_t hin, hcl, e152, mt_b1E, mt_b2E, mt_ltE, mt_00, mt_10, nm1, nm2, nm3, nm4, nm6, if_true, if_false, mt_b2_eta]
theorem cl_writes (l t : Int32) : ck (f_X11_writes l t) (f_X12_writes l t) := by
  intro M h
  obtain ⟨A, n, q, L, T, w, rr, hwf, hh, hr, hI, hH, hL, hW, hF⟩ := id h
  have hv : cv 13 M A := hh.2.2
  have hok := hwf.1
  have h7 := hok.1
  rcases ln_c h7 hv hr l t with ⟨e1, e0⟩ | ⟨a, b, ha, hb, rfl, rfl⟩
  · obtain ⟨M1, c1, c2, c3⟩ := rn_1 h
    obtain ⟨M2, d1, d0, d2⟩ := c3 M1 (fun _ _ => rfl)
    have hr1 : rm M1 A := rm_fr hr (fun id hid => c2 id (by omega))
    have e2 : f_X12_isLine l t M1 = some 0 := (isL_fr (c2 147 (by decide))).trans e0
    refine ⟨-1, M1, M2, ?_, ?_, d2⟩
    · simp only [f_X11_writes, f_X11_markOrRefuse, f_X4_refusalToMark, e1, mt_b1E, mt_b2E, mt_ltE, mt_00, mt_10, nm1, nm2, nm3, nm4, nm6, if_true, if_false, mt_b2_eta]
      exact c1
    · simp only [f_X12_writes, f_X12_notMark, e2, mt_b1E, mt_b2E, mt_ltE, mt_00, mt_10, nm1, nm2, nm3, nm4, nm6, if_true, if_false, mt_b2_eta]
      exact d1
  · have e1 := hc_isLine hh hwf ha hb
    have z : ((1 : Int32) = 0) = False := eq_false (by decide)
    by_cases hq : A 6 1 < 999
    · have l1 : M 10 3 < (999 : Int32) := by rw [hh.1.1]; exact nI_lt (b := 999) hq (by decide)
      obtain ⟨B, hBC, hBR⟩ := rH_sp hH
      obtain ⟨M3, k1, k2, k3⟩ := xk_keep hh hwf hBC
      have frk := fr_X3_keep 10 M k1
      obtain ⟨M4, p1, p2⟩ := hc_mark k2 hwf ha hb hq (119 : Int32)
      have p3 := hs_wf_mc hwf ha hb hq (119 : Int32)
      have hA : hs_mc A a b (119 : Int32) = hs_mk A a b true := by
        unfold hs_mc
        exact if_pos rfl
      rw [hA] at p2 p3
      have frp := fr_X4_markLine 10 _ _ _ M3 p1
      have oC : ∀ id, (id < 10 ∨ 21 ≤ id) → (id < 43 ∨ 133 ≤ id) → M4 id = M id := fun id a b => by rw [frp id (by omega), frk id b]
      have hr4 : rm M4 A := rm_fr hr (fun id a => oC id (by omega) (by omega))
      have hR4 : hR M4 n B := hR_eq hBR (by rw [oC 147 (by decide) (by decide)]) (fun j _ => by rw [oC 160 (by decide) (by decide)])
      have hC4 : hC M4 (hN n) ((q + 1) % 8) (hB A B n) := hC_eq k3 (frp 43 (by decide)) (fun id a b => frp id (by omega))
      obtain ⟨M5, g1, g2, g3, g4, g5⟩ := xm_keeps hr4 hR4
      have e2 : f_X12_isLine (nI a) (nI b) M4 = some 1 := by
        rw [xm_isLine2 hr4 h7 (by omega) (by omega), if_pos (by simp; omega)]
      have q9 : (M4 147 9 = (999 : Int32)) = False := eq_false (by rw [hr4.1.2.1]; intro e; have := (nI_eq (b := 999) (by omega) (by decide)).mp e; omega)
      obtain ⟨M6, u1, u2, u3⟩ := xm_marks g2 hwf ha hb true
      have u1 : f_X12_marks (nI a) (nI b) 1 M5 = some M6 := u1
      have w1 : M4 10 3 = nI ((hs_mk A a b true) 6 1) := p2.1.1
      have w2 : M6 147 9 = nI ((hs_mk A a b true) 6 1) := u2.1.2.1
      refine ⟨nI ((hs_mk A a b true) 6 1), M4, M6, ?_, ?_, rl_tail h p3 p2 u2 hC4 (hR_eq g3 (u3 147 23 (by decide) (by decide) (by decide)) (fun k _ => u3 160 k (by omega) (by decide) (by decide))) oC (fun id k a => by rw [u3 id k (by omega) (by omega) (by omega), g5 id k (by omega) (by omega)]) (fun k a => by rw [u3 160 k (by omega) (by decide) (by decide), g4 k (by omega)])⟩
      · simp only [f_X11_writes, f_X11_markOrRefuse, f_X4_refusalToMark, e1, z, l1, k1, p1, w1, mt_b1E, mt_b2E, mt_ltE, mt_00, mt_10, nm1, nm2, nm3, nm4, nm6, if_true, if_false, mt_b2_eta]
      · simp only [f_X12_writes, f_X12_notMark, e2, z, q9, g1, u1, w2, mt_b1E, mt_b2E, mt_ltE, mt_00, mt_10, nm1, nm2, nm3, nm4, nm6, if_true, if_false, mt_b2_eta]
    · have l1 : (M 10 3 < (999 : Int32)) = False := eq_false (by rw [hh.1.1]; exact nI_nlt (b := 999) (by omega) (by have := hwf.2.1.1; omega))
      have h99 : A 6 1 = 999 := by have := hwf.2.1.1; omega
      obtain ⟨M1, c1, c2, c3⟩ := rn_6 h
      obtain ⟨M2, d1, d0, d2⟩ := c3 M1 (fun _ _ => rfl)
      have hr1 : rm M1 A := rm_fr hr (fun id hid => c2 id (by omega))
      have e2 : f_X12_isLine (nI a) (nI b) M1 = some 1 := by
        rw [xm_isLine2 hr1 h7 (by omega) (by omega), if_pos (by simp; omega)]
      have q9 : (M1 147 9 = (999 : Int32)) = True := eq_true (by rw [hr1.1.2.1, h99]; rfl)
      refine ⟨-6, M1, M2, ?_, ?_, d2⟩
      · simp only [f_X11_writes, f_X11_markOrRefuse, f_X4_refusalToMark, e1, z, l1, mt_b1E, mt_b2E, mt_ltE, mt_00, mt_10, nm1, nm2, nm3, nm4, nm6, if_true, if_false, mt_b2_eta]
        exact c1
      · simp only [f_X12_writes, f_X12_notMark, e2, z, q9, mt_b1E, mt_b2E, mt_ltE, mt_00, mt_10, nm1, nm2, nm3, nm4, nm6, if_true, if_false, mt_b2_eta]
        exact d1
theorem cl_ticks (l t : Int32) : ck (f_X11_ticks l t) (f_X12_ticks l t) := by
  intro M h
  obtain ⟨A, n, q, L, T, w, rr, hwf, hh, hr, hI, hH, hL, hW, hF⟩ := id h
  have hv : cv 13 M A := hh.2.2
  have hok := hwf.1
  have h7 := hok.1
  rcases ln_c h7 hv hr l t with ⟨e1, e0⟩ | ⟨a, b, ha, hb, rfl, rfl⟩
  · obtain ⟨M1, c1, c2, c3⟩ := rn_1 h
    obtain ⟨M2, d1, d0, d2⟩ := c3 M1 (fun _ _ => rfl)
    have hr1 : rm M1 A := rm_fr hr (fun id hid => c2 id (by omega))
    have e2 : f_X12_isLine l t M1 = some 0 := (isL_fr (c2 147 (by decide))).trans e0
    refine ⟨-1, M1, M2, ?_, ?_, d2⟩
    · simp only [f_X11_ticks, f_X11_markOrRefuse, f_X4_refusalToMark, e1, mt_b1E, mt_b2E, mt_ltE, mt_00, mt_10, nm1, nm2, nm3, nm4, nm6, if_true, if_false, mt_b2_eta]
      exact c1
    · simp only [f_X12_ticks, f_X12_notMark, e2, mt_b1E, mt_b2E, mt_ltE, mt_00, mt_10, nm1, nm2, nm3, nm4, nm6, if_true, if_false, mt_b2_eta]
      exact d1
  · have e1 := hc_isLine hh hwf ha hb
    have z : ((1 : Int32) = 0) = False := eq_false (by decide)
    by_cases hq : A 6 1 < 999
    · have l1 : M 10 3 < (999 : Int32) := by rw [hh.1.1]; exact nI_lt (b := 999) hq (by decide)
      obtain ⟨B, hBC, hBR⟩ := rH_sp hH
      obtain ⟨M3, k1, k2, k3⟩ := xk_keep hh hwf hBC
      have frk := fr_X3_keep 10 M k1
      obtain ⟨M4, p1, p2⟩ := hc_mark k2 hwf ha hb hq (107 : Int32)
      have p3 := hs_wf_mc hwf ha hb hq (107 : Int32)
      have hA : hs_mc A a b (107 : Int32) = hs_buy (hs_mk A a b false) b 1 := by
        unfold hs_mc
        rw [if_neg (by decide)]; exact if_pos rfl
      rw [hA] at p2 p3
      have frp := fr_X4_markLine 10 _ _ _ M3 p1
      have oC : ∀ id, (id < 10 ∨ 21 ≤ id) → (id < 43 ∨ 133 ≤ id) → M4 id = M id := fun id a b => by rw [frp id (by omega), frk id b]
      have hr4 : rm M4 A := rm_fr hr (fun id a => oC id (by omega) (by omega))
      have hR4 : hR M4 n B := hR_eq hBR (by rw [oC 147 (by decide) (by decide)]) (fun j _ => by rw [oC 160 (by decide) (by decide)])
      have hC4 : hC M4 (hN n) ((q + 1) % 8) (hB A B n) := hC_eq k3 (frp 43 (by decide)) (fun id a b => frp id (by omega))
      obtain ⟨M5, g1, g2, g3, g4, g5⟩ := xm_keeps hr4 hR4
      have e2 : f_X12_isLine (nI a) (nI b) M4 = some 1 := by
        rw [xm_isLine2 hr4 h7 (by omega) (by omega), if_pos (by simp; omega)]
      have q9 : (M4 147 9 = (999 : Int32)) = False := eq_false (by rw [hr4.1.2.1]; intro e; have := (nI_eq (b := 999) (by omega) (by decide)).mp e; omega)
      obtain ⟨M6, u1, u2, u3⟩ := xm_buys g2 hwf ha hb hq
      have w1 : M4 13 9 = nI ((hs_buy (hs_mk A a b false) b 1) 6 4) := p2.2.2.1.2.1
      have w2 : M6 155 (0 : Int32).toNatClampNeg = nI ((hs_buy (hs_mk A a b false) b 1) 6 4) := u2.1.2.2.2.2.1
      refine ⟨nI ((hs_buy (hs_mk A a b false) b 1) 6 4), M4, M6, ?_, ?_, rl_tail h p3 p2 u2 hC4 (hR_eq g3 (u3 147 23 (by decide) (by decide)) (fun k _ => u3 160 k (by omega) (by decide))) oC (fun id k a => by rw [u3 id k (by omega) (by omega), g5 id k (by omega) (by omega)]) (fun k a => by rw [u3 160 k (by omega) (by decide), g4 k (by omega)])⟩
      · simp only [f_X11_ticks, f_X11_markOrRefuse, f_X4_refusalToMark, e1, z, l1, k1, p1, w1, mt_b1E, mt_b2E, mt_ltE, mt_00, mt_10, nm1, nm2, nm3, nm4, nm6, if_true, if_false, mt_b2_eta]
      · simp only [f_X12_ticks, f_X12_notMark, e2, z, q9, g1, u1, w2, mt_b1E, mt_b2E, mt_ltE, mt_00, mt_10, nm1, nm2, nm3, nm4, nm6, if_true, if_false, mt_b2_eta]
    · have l1 : (M 10 3 < (999 : Int32)) = False := eq_false (by rw [hh.1.1]; exact nI_nlt (b := 999) (by omega) (by have := hwf.2.1.1; omega))
      have h99 : A 6 1 = 999 := by have := hwf.2.1.1; omega
      obtain ⟨M1, c1, c2, c3⟩ := rn_6 h
      obtain ⟨M2, d1, d0, d2⟩ := c3 M1 (fun _ _ => rfl)
      have hr1 : rm M1 A := rm_fr hr (fun id hid => c2 id (by omega))
      have e2 : f_X12_isLine (nI a) (nI b) M1 = some 1 := by
        rw [xm_isLine2 hr1 h7 (by omega) (by omega), if_pos (by simp; omega)]
      have q9 : (M1 147 9 = (999 : Int32)) = True := eq_true (by rw [hr1.1.2.1, h99]; rfl)
      refine ⟨-6, M1, M2, ?_, ?_, d2⟩
      · simp only [f_X11_ticks, f_X11_markOrRefuse, f_X4_refusalToMark, e1, z, l1, mt_b1E, mt_b2E, mt_ltE, mt_00, mt_10, nm1, nm2, nm3, nm4, nm6, if_true, if_false, mt_b2_eta]
        exact c1
      · simp only [f_X12_ticks, f_X12_notMark, e2, z, q9, mt_b1E, mt_b2E, mt_ltE, mt_00, mt_10, nm1, nm2, nm3, nm4, nm6, if_true, if_false, mt_b2_eta]
        exact d1
theorem cl_strikes (l t : Int32) : ck (f_X11_strikes l t) (f_X12_strikes l t) := by
  intro M h
  obtain ⟨A, n, q, L, T, w, rr, hwf, hh, hr, hI, hH, hL, hW, hF⟩ := id h
  have hv : cv 13 M A := hh.2.2
  have hok := hwf.1
  have h7 := hok.1
  rcases ln_c h7 hv hr l t with ⟨e1, e0⟩ | ⟨a, b, ha, hb, rfl, rfl⟩
  · obtain ⟨M1, c1, c2, c3⟩ := rn_1 h
    obtain ⟨M2, d1, d0, d2⟩ := c3 M1 (fun _ _ => rfl)
    have hr1 : rm M1 A := rm_fr hr (fun id hid => c2 id (by omega))
    have e2 : f_X12_isLine l t M1 = some 0 := (isL_fr (c2 147 (by decide))).trans e0
    refine ⟨-1, M1, M2, ?_, ?_, d2⟩
    · simp only [f_X11_strikes, f_X11_markOrRefuse, f_X4_refusalToMark, e1, mt_b1E, mt_b2E, mt_ltE, mt_00, mt_10, nm1, nm2, nm3, nm4, nm6, if_true, if_false, mt_b2_eta]
      exact c1
    · simp only [f_X12_strikes, f_X12_notMark, e2, mt_b1E, mt_b2E, mt_ltE, mt_00, mt_10, nm1, nm2, nm3, nm4, nm6, if_true, if_false, mt_b2_eta]
      exact d1
  · have e1 := hc_isLine hh hwf ha hb
    have z : ((1 : Int32) = 0) = False := eq_false (by decide)
    by_cases hq : A 6 1 < 999
    · have l1 : M 10 3 < (999 : Int32) := by rw [hh.1.1]; exact nI_lt (b := 999) hq (by decide)
      obtain ⟨B, hBC, hBR⟩ := rH_sp hH
      obtain ⟨M3, k1, k2, k3⟩ := xk_keep hh hwf hBC
      have frk := fr_X3_keep 10 M k1
      obtain ⟨M4, p1, p2⟩ := hc_mark k2 hwf ha hb hq (120 : Int32)
      have p3 := hs_wf_mc hwf ha hb hq (120 : Int32)
      have hA : hs_mc A a b (120 : Int32) = hs_mk A a b false := by
        unfold hs_mc
        rw [if_neg (by decide)]; exact if_neg (by decide)
      rw [hA] at p2 p3
      have frp := fr_X4_markLine 10 _ _ _ M3 p1
      have oC : ∀ id, (id < 10 ∨ 21 ≤ id) → (id < 43 ∨ 133 ≤ id) → M4 id = M id := fun id a b => by rw [frp id (by omega), frk id b]
      have hr4 : rm M4 A := rm_fr hr (fun id a => oC id (by omega) (by omega))
      have hR4 : hR M4 n B := hR_eq hBR (by rw [oC 147 (by decide) (by decide)]) (fun j _ => by rw [oC 160 (by decide) (by decide)])
      have hC4 : hC M4 (hN n) ((q + 1) % 8) (hB A B n) := hC_eq k3 (frp 43 (by decide)) (fun id a b => frp id (by omega))
      obtain ⟨M5, g1, g2, g3, g4, g5⟩ := xm_keeps hr4 hR4
      have e2 : f_X12_isLine (nI a) (nI b) M4 = some 1 := by
        rw [xm_isLine2 hr4 h7 (by omega) (by omega), if_pos (by simp; omega)]
      have q9 : (M4 147 9 = (999 : Int32)) = False := eq_false (by rw [hr4.1.2.1]; intro e; have := (nI_eq (b := 999) (by omega) (by decide)).mp e; omega)
      obtain ⟨M6, u1, u2, u3⟩ := xm_marks g2 hwf ha hb false
      have u1 : f_X12_marks (nI a) (nI b) 0 M5 = some M6 := u1
      have w1 : M4 10 3 = nI ((hs_mk A a b false) 6 1) := p2.1.1
      have w2 : M6 147 9 = nI ((hs_mk A a b false) 6 1) := u2.1.2.1
      refine ⟨nI ((hs_mk A a b false) 6 1), M4, M6, ?_, ?_, rl_tail h p3 p2 u2 hC4 (hR_eq g3 (u3 147 23 (by decide) (by decide) (by decide)) (fun k _ => u3 160 k (by omega) (by decide) (by decide))) oC (fun id k a => by rw [u3 id k (by omega) (by omega) (by omega), g5 id k (by omega) (by omega)]) (fun k a => by rw [u3 160 k (by omega) (by decide) (by decide), g4 k (by omega)])⟩
      · simp only [f_X11_strikes, f_X11_markOrRefuse, f_X4_refusalToMark, e1, z, l1, k1, p1, w1, mt_b1E, mt_b2E, mt_ltE, mt_00, mt_10, nm1, nm2, nm3, nm4, nm6, if_true, if_false, mt_b2_eta]
      · simp only [f_X12_strikes, f_X12_notMark, e2, z, q9, g1, u1, w2, mt_b1E, mt_b2E, mt_ltE, mt_00, mt_10, nm1, nm2, nm3, nm4, nm6, if_true, if_false, mt_b2_eta]
    · have l1 : (M 10 3 < (999 : Int32)) = False := eq_false (by rw [hh.1.1]; exact nI_nlt (b := 999) (by omega) (by have := hwf.2.1.1; omega))
      have h99 : A 6 1 = 999 := by have := hwf.2.1.1; omega
      obtain ⟨M1, c1, c2, c3⟩ := rn_6 h
      obtain ⟨M2, d1, d0, d2⟩ := c3 M1 (fun _ _ => rfl)
      have hr1 : rm M1 A := rm_fr hr (fun id hid => c2 id (by omega))
      have e2 : f_X12_isLine (nI a) (nI b) M1 = some 1 := by
        rw [xm_isLine2 hr1 h7 (by omega) (by omega), if_pos (by simp; omega)]
      have q9 : (M1 147 9 = (999 : Int32)) = True := eq_true (by rw [hr1.1.2.1, h99]; rfl)
      refine ⟨-6, M1, M2, ?_, ?_, d2⟩
      · simp only [f_X11_strikes, f_X11_markOrRefuse, f_X4_refusalToMark, e1, z, l1, mt_b1E, mt_b2E, mt_ltE, mt_00, mt_10, nm1, nm2, nm3, nm4, nm6, if_true, if_false, mt_b2_eta]
        exact c1
      · simp only [f_X12_strikes, f_X12_notMark, e2, z, q9, mt_b1E, mt_b2E, mt_ltE, mt_00, mt_10, nm1, nm2, nm3, nm4, nm6, if_true, if_false, mt_b2_eta]
        exact d1
theorem cl_rule (v : Int32) : ck (f_X11_rule v) (f_X12_rule v) := by
  intro M h
  obtain ⟨A, n, q, L, T, w, rr, hwf, hh, hr, hI, hH, hL, hW, hF⟩ := id h
  have hvc : cv 13 M A := hh.2.2
  have hok := hwf.1
  have h7 := hok.1
  rcases oo_c v (b := 3) 3 rfl (by decide) with ⟨o1, o2⟩ | ⟨o1, o2, j, j1, rfl⟩
  · obtain ⟨M1, c1, c2, c3⟩ := rn_2 h
    obtain ⟨M2, d1, d0, d2⟩ := c3 M1 (fun _ _ => rfl)
    have hr1 : rm M1 A := rm_fr hr (fun id hid => c2 id (by omega))
    refine ⟨-2, M1, M2, ?_, ?_, d2⟩
    · simp only [f_X11_rule, o1, mt_b1E, mt_b2E, mt_ltE, mt_00, mt_10, nm1, nm2, nm3, nm4, nm6, if_true, if_false, mt_b2_eta]
      exact c1
    · simp only [f_X12_rule, o2, mt_b1E, mt_b2E, mt_ltE, mt_00, mt_10, nm1, nm2, nm3, nm4, nm6, if_true, if_false, mt_b2_eta]
      exact d1
  · obtain ⟨B, hBC, hBR⟩ := rH_sp hH
    obtain ⟨k1, k2⟩ := xk_forget hBC
    have hh3 : hv 10 (mt_wr M 43 2 0) A := hv_frame (M' := mt_wr M 43 2 0) hh (fun id a b => mt_wr_ne (by omega))
    obtain ⟨M4, eM⟩ : ∃ m, m = mt_wr (mt_wr M 43 2 0) 10 5 (nI j) := ⟨_, rfl⟩
    have p2 : hv 10 M4 (hs_up A 6 3 j) := by rw [eM]; exact hv_rule hh3 j
    have oC : ∀ id, (id < 10 ∨ 21 ≤ id) → (id < 43 ∨ 133 ≤ id) → M4 id = M id := fun id a b => by rw [eM, mt_wr_ne (by omega), mt_wr_ne (by omega)]
    have hr4 : rm M4 A := rm_fr hr (fun id a => oC id (by omega) (by omega))
    have hR4 : hR M4 n B := hR_eq hBR (by rw [oC 147 (by decide) (by decide)]) (fun j _ => by rw [oC 160 (by decide) (by decide)])
    have hC4 : hC M4 0 q B := by rw [eM]; exact hC_eq k2 (mt_wr_ne (by decide)) (fun id a b => mt_wr_ne (by omega))
    have hr5 : rm (mt_wr M4 147 23 0) A := rm_eq (rf_fr (M := M4) (M' := mt_wr M4 147 23 0) (fun id a b => mt_wr_ne (by omega)) (fun k a => mt_wr_n (by omega))) hr4
    have w1 : mt_wr M 43 2 0 10 5 = nI (A 6 3) := hh3.1.2.2.1
    have w2 : mt_wr M4 147 23 0 147 11 = nI (A 6 3) := hr5.1.2.2.2.1
    refine ⟨nI (A 6 3), M4, mt_wr (mt_wr M4 147 23 0) 147 11 (nI j), ?_, ?_, rl_tail h (hs_wf_rule hwf j1) p2 (rm_w147 hr5 11 3 j (by decide)) hC4 (hR_eq (xk_forgetR hR4) (mt_wr_n (by decide)) (fun k _ => by rw [mt_wr_ne (by decide)])) oC (fun id k a => by rw [mt_wr_ne2 (by omega), mt_wr_ne2 (by omega)]) (fun k a => by rw [mt_wr_ne (by decide), mt_wr_ne (by decide)])⟩
    · simp only [f_X11_rule, o1, k1, w1, eM, mt_b1E, mt_b2E, mt_ltE, mt_00, mt_10, nm1, nm2, nm3, nm4, nm6, if_true, if_false, mt_b2_eta]
    · simp only [f_X12_rule, o2, w2, mt_b1E, mt_b2E, mt_ltE, mt_00, mt_10, nm1, nm2, nm3, nm4, nm6, if_true, if_false, mt_b2_eta]
theorem cl_join : ck f_X11_join f_X12_join := by
  intro M h
  obtain ⟨A, n, q, L, T, w, rr, hwf, hh, hr, hI, hH, hL, hW, hF⟩ := id h
  have hvc : cv 13 M A := hh.2.2
  have hok := hwf.1
  have h7 := hok.1
  obtain ⟨B, hBC, hBR⟩ := rH_sp hH
  obtain ⟨M3, k1, k2, k3⟩ := xk_keep hh hwf hBC
  have frk := fr_X3_keep 10 M k1
  obtain ⟨M4, p1, p2⟩ := hc_join k2 hwf
  have frp := fr_X4_joinLists 10 M3 p1
  have oC : ∀ id, (id < 10 ∨ 21 ≤ id) → (id < 43 ∨ 133 ≤ id) → M4 id = M id := fun id a b => by rw [frp id (by omega), frk id b]
  have hr4 : rm M4 A := rm_fr hr (fun id a => oC id (by omega) (by omega))
  have hR4 : hR M4 n B := hR_eq hBR (by rw [oC 147 (by decide) (by decide)]) (fun j _ => by rw [oC 160 (by decide) (by decide)])
  have hC4 : hC M4 (hN n) ((q + 1) % 8) (hB A B n) := hC_eq k3 (frp 43 (by decide)) (fun id a b => frp id (by omega))
  obtain ⟨M5, g1, g2, g3, g4, g5⟩ := xm_keeps hr4 hR4
  obtain ⟨M6, u1, u2, u3⟩ := xm_joins g2 hwf
  refine ⟨nI (sp_jc A), M4, M6, ?_, ?_, rl_tail h (hs_wf_jn hwf) p2 u2 hC4 (hR_eq g3 (u3 147 23 (by decide) (by decide)) (fun k _ => u3 160 k (by omega) (by decide))) oC (fun id k a => by rw [u3 id k (by omega) (by omega), g5 id k (by omega) (by omega)]) (fun k a => by rw [u3 160 k (by omega) (by decide), g4 k (by omega)])⟩
  · simp only [f_X11_join, k1, p1, mt_b1E, mt_b2E, mt_ltE, mt_00, mt_10, nm1, nm2, nm3, nm4, nm6, if_true, if_false, mt_b2_eta]
  · simp only [f_X12_join, g1, u1, mt_b1E, mt_b2E, mt_ltE, mt_00, mt_10, nm1, nm2, nm3, nm4, nm6, if_true, if_false, mt_b2_eta]
theorem cl_day : ck f_X11_day f_X12_day := by
  intro M h
  obtain ⟨A, n, q, L, T, w, rr, hwf, hh, hr, hI, hH, hL, hW, hF⟩ := id h
  have hvc : cv 13 M A := hh.2.2
  have hok := hwf.1
  have h7 := hok.1
  by_cases hq : A 6 2 < 999
  · have l1 : (M 10 4 < (999 : Int32)) = True := eq_true (by rw [hh.1.2.1]; exact nI_lt (b := 999) hq (by decide))
    obtain ⟨B, hBC, hBR⟩ := rH_sp hH
    obtain ⟨M3, k1, k2, k3⟩ := xk_keep hh hwf hBC
    have frk := fr_X3_keep 10 M k1
    obtain ⟨M4, p1, p2⟩ := hc_days (n := 1) k2 hwf (by decide)
    have p1 : f_X4_liveDays 10 (1 : Int32) M3 = some (nI (hs_day A 6 5 - A 6 5), M4) := p1
    have p2 : hv 10 M4 (hs_day A) := p2
    have es : hs_day A 6 5 - A 6 5 = sp_sm (A 6 0) (fun t => A 2 t - A 3 t) := by
      unfold hs_day
      rw [hs_up_n _ (by decide), hs_dP_65]
      omega
    rw [es] at p1
    have frp := fr_X4_liveDays 10 (1 : Int32) M3 p1
    have oC : ∀ id, (id < 10 ∨ 21 ≤ id) → (id < 43 ∨ 133 ≤ id) → M4 id = M id := fun id a b => by rw [frp id (by omega), frk id b]
    have hr4 : rm M4 A := rm_fr hr (fun id a => oC id (by omega) (by omega))
    have hR4 : hR M4 n B := hR_eq hBR (by rw [oC 147 (by decide) (by decide)]) (fun j _ => by rw [oC 160 (by decide) (by decide)])
    have hC4 : hC M4 (hN n) ((q + 1) % 8) (hB A B n) := hC_eq k3 (frp 43 (by decide)) (fun id a b => frp id (by omega))
    obtain ⟨M5, g1, g2, g3, g4, g5⟩ := xm_keeps hr4 hR4
    have q9 : (M4 147 10 = (999 : Int32)) = False := eq_false (by rw [hr4.1.2.2.1]; intro e; have := (nI_eq (b := 999) (by omega) (by decide)).mp e; omega)
    obtain ⟨M6, u1, u2, -⟩ := xr_goes g2 hok
    have u3 := fr_X12_goesDay M5 u1
    refine ⟨nI (sp_sm (A 6 0) (fun t => A 2 t - A 3 t)), M4, M6, ?_, ?_, rl_tail h (hs_wf_day hwf hq) p2 u2 hC4 (hR_eq g3 (u3 147 23 (by decide)) (fun k _ => u3 160 k (by omega))) oC (fun id k a => by rw [u3 id k (by omega), g5 id k (by omega) (by omega)]) (fun k a => by rw [u3 160 k (by omega), g4 k (by omega)])⟩
    · simp only [f_X11_day, l1, k1, p1, mt_b1E, mt_b2E, mt_ltE, mt_00, mt_10, nm1, nm2, nm3, nm4, nm6, if_true, if_false, mt_b2_eta]
    · simp only [f_X12_day, q9, g1, u1, mt_b1E, mt_b2E, mt_ltE, mt_00, mt_10, nm1, nm2, nm3, nm4, nm6, if_true, if_false, mt_b2_eta]
  · have l1 : (M 10 4 < (999 : Int32)) = False := eq_false (by rw [hh.1.2.1]; exact nI_nlt (b := 999) (by omega) (by have := hwf.2.1.2.1; omega))
    have h99 : A 6 2 = 999 := by have := hwf.2.1.2.1; omega
    obtain ⟨M1, c1, c2, c3⟩ := rn_6 h
    obtain ⟨M2, d1, d0, d2⟩ := c3 M1 (fun _ _ => rfl)
    have hr1 : rm M1 A := rm_fr hr (fun id hid => c2 id (by omega))
    have q9 : (M1 147 10 = (999 : Int32)) = True := eq_true (by rw [hr1.1.2.2.1, h99]; rfl)
    refine ⟨-6, M1, M2, ?_, ?_, d2⟩
    · simp only [f_X11_day, l1, mt_b1E, mt_b2E, mt_ltE, mt_00, mt_10, nm1, nm2, nm3, nm4, nm6, if_true, if_false, mt_b2_eta]
      exact c1
    · simp only [f_X12_day, q9, mt_b1E, mt_b2E, mt_ltE, mt_00, mt_10, nm1, nm2, nm3, nm4, nm6, if_true, if_false, mt_b2_eta]
      exact d1
theorem cl_back : ck f_X11_back f_X12_back := by
  intro M h
  obtain ⟨A, n, q, L, T, w, rr, hwf, hh, hr, hI, hH, hL, hW, hF⟩ := id h
  have hvc : cv 13 M A := hh.2.2
  have hok := hwf.1
  have h7 := hok.1
  obtain ⟨B, hBC, hBR⟩ := rH_sp hH
  rcases Nat.eq_zero_or_pos n with rfl | hn
  · have l1 : (M 43 2 = (0 : Int32)) = True := eq_true hBC.2.2.2.1
    obtain ⟨M1, c1, c2, c3⟩ := rn_3 h
    obtain ⟨M2, d1, d0, d2⟩ := c3 M1 (fun _ _ => rfl)
    have hr1 : rm M1 A := rm_fr hr (fun id hid => c2 id (by omega))
    have q9 : (M1 147 23 = (0 : Int32)) = True := eq_true (by rw [c2 147 (by decide)]; exact hBR.2.1)
    refine ⟨-3, M1, M2, ?_, ?_, d2⟩
    · simp only [f_X11_back, l1, mt_b1E, mt_b2E, mt_ltE, mt_00, mt_10, nm1, nm2, nm3, nm4, nm6, if_true, if_false, mt_b2_eta]
      exact c1
    · simp only [f_X12_back, q9, mt_b1E, mt_b2E, mt_ltE, mt_00, mt_10, nm1, nm2, nm3, nm4, nm6, if_true, if_false, mt_b2_eta]
      exact d1
  · obtain ⟨m, rfl⟩ : ∃ m, n = m + 1 := ⟨n - 1, by omega⟩
    have hm : m < 8 := by have := hBC.2.1; omega
    have l1 : (M 43 2 = (0 : Int32)) = False := eq_false (by rw [hBC.2.2.2.1]; intro e; have := (nI_eq (b := 0) (by omega) (by decide)).mp e; omega)
    obtain ⟨M4, k1, k2, k3⟩ := xk_back hBC
    have frk := fr_X3_takeBack 10 M k1
    have oC : ∀ id, (id < 10 ∨ 21 ≤ id) → (id < 43 ∨ 133 ≤ id) → M4 id = M id := fun id a b => frk id (by omega)
    have hR4 : hR M4 (m + 1) B := hR_eq hBR (by rw [oC 147 (by decide) (by decide)]) (fun j _ => by rw [oC 160 (by decide) (by decide)])
    obtain ⟨M6, u1, u2, u3, u4, u5⟩ := xm_backs hR4
    refine ⟨nI m, M4, M6, ?_, u1, rl_tail h (hBC.2.2.2.2 m (by omega)).1 k2 u2 k3 u3 oC (fun id k a => u5 id k (by omega) (by omega)) (fun k a => u4 k)⟩
    simp only [f_X11_back, l1, k1, mt_b1E, mt_b2E, mt_ltE, mt_00, mt_10, nm1, nm2, nm3, nm4, nm6, if_true, if_false, mt_b2_eta]

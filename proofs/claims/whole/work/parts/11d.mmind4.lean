/-! THE REFERENCE: month, swap, lots, judge -/
theorem mt_sa {s l k : Nat} (h : l ≤ k) : nI s - nI l + nI k = nI (s + (k - l)) := by
  obtain ⟨d, rfl⟩ : ∃ d, k = l + d := ⟨k - l, by omega⟩
  rw [← nI_add l d, ← Int32.add_assoc, Int32.sub_add_cancel, nI_add, Nat.add_sub_cancel_left]
theorem mq_w151 {M M' : mt_M} (h : mq M M') {t : Nat} (ht : t < 7) (x : Int32) : mq (mt_wr M 151 t x) (mt_wr M' 151 t x) := by
  obtain ⟨q1, q2, q3, q4, q5⟩ := h
  refine ⟨fun j hj => ?_, fun j hj => ?_, fun id k h => ?_, fun k h => ?_, fun id k h => ?_⟩
  · have e : ∀ m : mt_M, rf (mt_wr m 151 t x) j = if j = 14 + t then x else rf m j := fun m => by
      by_cases z : 14 ≤ j ∧ j < 21
      · rw [rf_151 _ z.1 z.2, rf_151 _ z.1 z.2]
        by_cases w : j = 14 + t
        · subst w; rw [if_pos rfl, show 14 + t - 14 = t by omega, mt_wr_s]
        · rw [if_neg w, mt_wr_n (by omega)]
      · rw [if_neg (by omega)]
        unfold rf
        simp only [mt_wr_ne (show (149 : Nat) ≠ 151 by decide), mt_wr_ne (show (150 : Nat) ≠ 151 by decide), mt_wr_ne (show (152 : Nat) ≠ 151 by decide), mt_wr_ne (show (153 : Nat) ≠ 151 by decide), mt_wr_ne (show (154 : Nat) ≠ 151 by decide), mt_wr_ne (show (155 : Nat) ≠ 151 by decide), mt_wr_ne (show (147 : Nat) ≠ 151 by decide)]
        by_cases a1 : j < 7
        · rw [if_pos a1, if_pos a1]
        · rw [if_neg a1, if_neg a1]
          by_cases a2 : j < 14
          · rw [if_pos a2, if_pos a2]
          · rw [if_neg a2, if_neg a2, if_neg (show ¬ j < 21 by omega), if_neg (show ¬ j < 21 by omega)]
    rw [e, e, q1 j hj]
  · rw [mt_wr_ne (by decide), mt_wr_ne (by decide)]; exact q2 j hj
  · rw [mt_wr_ne (by omega), mt_wr_ne (by omega)]; exact q3 id k h
  · rw [mt_wr_ne (by decide), mt_wr_ne (by decide)]; exact q4 k h
  · rw [mt_wr_ne (by omega), mt_wr_ne (by omega)]; exact q5 id k h
/-- the first day whose stock is not as it is told -/
def sp_jd (A : hs_A) (rr : Nat → Nat) (t n : Nat) : Option Nat := sp_find (fun i => !(sp_sN (A 0 t) (A 1 t) (A 2 t) i (A 3 t) == rr i)) n
section XR4
variable {M : mt_M} {A : hs_A} {t : Nat}
theorem xr_month (hv : rm M A) (hok : hs_ok A) : ∃ M', f_X12_month M = some (nI (hs_mo (hs_z A) sp_n30 6 4), M') ∧ mq M M' := by
  have h7 := hok.1
  obtain ⟨M1, hT, hv1, hF⟩ := xr_mind hv
  have e4 := hv1.1.2.2.2.2.1
  have ez : hs_mo A sp_n30 6 4 = hs_mo (hs_z A) sp_n30 6 4 + A 6 4 := by
    have h := hs_sh_mo (hs_z A) (A 6 4) (A 6 5) (A 6 6) sp_n30
    rw [hs_sh_z] at h
    rw [h, (hs_sh_6 _ _ _ _).1]
  simp only [f_X12_month, hT, mt_b1E, mt_ltE, mc_0, e4]
  refine mt_lz2 (P := fun r => ∃ M', r = some (nI (hs_mo (hs_z A) sp_n30 6 4), M') ∧ mq M M') (fun i x m => x = nI i ∧ rm m (hs_mo A i) ∧ mi M1 m) 30 (by decide) ?_ ?_ ⟨rfl, hv1, mi.rfl' M1⟩
  · rintro i hi x m ⟨rfl, hm, hx⟩ kk
    left
    obtain ⟨S, eS⟩ : ∃ S, S = hs_mo A i := ⟨_, rfl⟩
    have okS : hs_ok S := by rw [eS]; exact hs_ok_mo hok i
    have S0 : S 6 0 = A 6 0 := by rw [eS, hs_mo_0]
    rw [← eS] at hm
    rw [mi_30, if_neg (nI_ge hi (by omega))]
    refine mt_lz2 (P := fun o => ∃ c1 c2, (c1 = nI (i + 1) ∧ rm c2 (hs_mo A (i + 1)) ∧ mi M1 c2) ∧ o = kk c1 c2) (fun j x m => x = nI j ∧ rm m (hs_bb 1 S j) ∧ mi M1 m) (A 6 0) (by omega) ?_ ?_ ⟨rfl, hm, hx⟩
    · rintro j hj x m ⟨rfl, hm, hx⟩ k2
      left
      have okB := hs_ok_bb okS 1 j
      have e0 : hs_bb 1 S j 6 0 = A 6 0 := by rw [hs_bb_6 _ _ _ (by decide), S0]
      have hin : vp_in (nI j) 7 := vp_in_nI (by omega) (by omega)
      have hcl : (nI j).toNatClampNeg = j := nI_clamp (by omega)
      obtain ⟨-, -, a3, a4, -⟩ := hm.2 j (by omega) (by omega)
      obtain ⟨-, -, b2, b3⟩ := okB.2 j (by omega)
      have h8 := hm.1.1
      rw [e0] at h8
      rw [h8, if_neg (nI_ge hj (by omega))]
      simp only [mt_ci_t hin, hcl, a3, a4]
      by_cases z : 1 * hs_bb 1 S j 2 j ≤ hs_bb 1 S j 3 j
      · rw [if_pos (nI_le (by omega) (by omega))]
        exact ⟨_, _, ⟨rfl, by simp only [hs_bb]; rw [if_pos z]; exact hm, hx⟩, by rw [nI_1]⟩
      · rw [if_neg (nI_ge (by omega) (by omega))]
        obtain ⟨N, q1, q2, q3⟩ := xr_gets hm okB (t := j) (by omega)
        rw [q1, mt_b1E]
        exact ⟨_, N, ⟨rfl, by simp only [hs_bb]; rw [if_neg z]; exact q2, hx.trans q3⟩, by rw [nI_1]⟩
    · rintro x m ⟨rfl, hm, hx⟩ k2
      have h8 := hm.1.1
      rw [hs_bb_6 _ _ _ (by decide), S0] at h8
      obtain ⟨N2, q1, q2, q3⟩ := xr_goes hm (hs_ok_bb okS 1 (A 6 0))
      rw [h8, if_pos (nI_le (Nat.le_refl _) (by omega)), q1, mt_b2E]
      refine ⟨_, N2, ⟨rfl, ?_, hx.trans q3⟩, by rw [nI_1]⟩
      simp only [hs_mo]
      rw [← eS]
      exact q2
  · rintro x m ⟨rfl, hm, hx⟩ kk
    obtain ⟨M3, g1, g2⟩ := hF m hx
    have ez2 := ez
    rw [sp_e30] at ez2
    rw [mi_30, if_pos (nI_le (Nat.le_refl _) (by omega)), hm.1.2.2.2.2.1, ez2, pk_sub (Nat.le_add_left _ _), Nat.add_sub_cancel, g1, mt_b1E, sp_e30]
    exact ⟨M3, rfl, g2⟩
theorem xm_changes (hv : rm M A) (h7 : A 6 0 ≤ 7) {i j : Nat} (hi : i < A 6 0) (hj : j < A 6 0) : f_X12_changesUses (nI i) (nI j) M = some (mt_wr (mt_wr M 151 i (nI (A 2 j))) 151 j (nI (A 2 i))) ∧ rm (mt_wr (mt_wr M 151 i (nI (A 2 j))) 151 j (nI (A 2 i))) (hs_sw A i j) := by
  have hin : vp_in (nI i) 7 := vp_in_nI (by omega) (by omega)
  have hcl : (nI i).toNatClampNeg = i := nI_clamp (by omega)
  have hjn : vp_in (nI j) 7 := vp_in_nI (by omega) (by omega)
  have hcj : (nI j).toNatClampNeg = j := nI_clamp (by omega)
  obtain ⟨-, -, e1, -⟩ := hv.2 i hi (by omega)
  obtain ⟨-, -, e2, -⟩ := hv.2 j hj (by omega)
  refine ⟨?_, rm_w151 (rm_w151 hv i (A 2 j)) j (A 2 i)⟩
  simp only [f_X12_changesUses, mt_ci_t hin, mt_ci_t hjn, hcl, hcj, mt_ltE, e1, e2]
theorem xr_swap1 (hv : rm M A) (hok : hs_ok A) {i j : Nat} (hi : i < A 6 0) (hj : j < A 6 0) (hne : i ≠ j) : ∃ M', (∀ B : Int32 → mt_M → Option (Int32 × mt_M), (mt_b1 (f_X12_changesUses (nI i) (nI j) M) fun M21 => mt_b2 (f_X12_lackingIn 7 M21) fun r23 M24 => mt_b1 (f_X12_changesUses (nI i) (nI j) M24) fun M26 => B r23 M26) = B (nI (sp_l7 (hs_sw A i j))) M') ∧ mq M M' := by
  have h7 := hok.1
  obtain ⟨c1, c2⟩ := xm_changes hv h7 hi hj
  have okw := hs_ok_sw hok hi hj
  obtain ⟨-, -, e1, -⟩ := hv.2 i hi (by omega)
  obtain ⟨-, -, e2, -⟩ := hv.2 j hj (by omega)
  obtain ⟨N, n1, n2, -⟩ := xr_lackingIn c2 okw (n := 7) (by decide)
  have n1 : f_X12_lackingIn 7 (mt_wr (mt_wr M 151 i (nI (A 2 j))) 151 j (nI (A 2 i))) = some (nI (sp_l7 (hs_sw A i j)), N) := n1
  have s0 : hs_sw A i j 6 0 = A 6 0 := by rw [hs_sw_r _ _ _ (by decide)]
  obtain ⟨d1, d2⟩ := xm_changes (n2.rm c2) okw.1 (i := i) (j := j) (by omega) (by omega)
  have u1 : hs_sw A i j 2 j = A 2 i := by unfold hs_sw; rw [hs_up_s]
  have u2 : hs_sw A i j 2 i = A 2 j := by unfold hs_sw; rw [hs_up_n _ hne, hs_up_s]
  rw [u1, u2] at d1
  refine ⟨mt_wr (mt_wr N 151 i (nI (A 2 i))) 151 j (nI (A 2 j)), fun B => ?_, ?_⟩
  · rw [c1, mt_b1E, n1, mt_b2E, d1, mt_b1E]
  · have h := mq_w151 (mq_w151 n2 (t := i) (by omega) (nI (A 2 i))) (t := j) (by omega) (nI (A 2 j))
    have e : mt_wr (mt_wr (mt_wr (mt_wr M 151 i (nI (A 2 j))) 151 j (nI (A 2 i))) 151 i (nI (A 2 i))) 151 j (nI (A 2 j)) = M := by
      funext b k
      by_cases hb : b = 151
      · subst hb
        by_cases kj : k = j
        · subst kj; rw [mt_wr_s]; exact e2.symm
        · rw [mt_wr_n kj]
          by_cases ki : k = i
          · subst ki; rw [mt_wr_s]; exact e1.symm
          · rw [mt_wr_n ki, mt_wr_n kj, mt_wr_n ki]
      · rw [mt_wr_ne hb, mt_wr_ne hb, mt_wr_ne hb, mt_wr_ne hb]
    rw [e] at h
    exact h
theorem xr_swap (hv : rm M A) (hok : hs_ok A) : ∃ M', f_X12_swap M = some (sp_ov (sp_wo A (A 6 0)).1, M') ∧ mq M M' := by
  have h7 := hok.1
  obtain ⟨M1, h1, x1, -⟩ := xr_lackingIn hv hok (n := 7) (by decide)
  have h1 : f_X12_lackingIn 7 M = some (nI (sp_l7 A), M1) := h1
  simp only [f_X12_swap, h1, mt_b2E]
  refine mt_lz4 (P := fun r => ∃ M', r = some (sp_ov (sp_wo A (A 6 0)).1, M') ∧ mq M M') (fun i x y z m => x = sp_ov (sp_wo A i).1 ∧ y = nI (sp_wo A i).2 ∧ z = nI i ∧ mq M m) (A 6 0) (by omega) ?_ ?_ ⟨rfl, rfl, rfl, x1⟩
  · rintro i hi x y z m ⟨rfl, rfl, rfl, hm⟩ k
    left
    have hvm := hm.rm hv
    rw [hvm.1.1, if_neg (nI_ge hi (by omega))]
    simp only [mt_ltE, nI_1]
    refine mt_lz4 (P := fun o => ∃ c1 c2 c3 c4, (c1 = sp_ov (sp_wo A (i + 1)).1 ∧ c2 = nI (sp_wo A (i + 1)).2 ∧ c3 = nI (i + 1) ∧ mq M c4) ∧ o = k c1 c2 c3 c4) (fun j x y z m => x = sp_ov (sp_wi A i (sp_wo A i) j).1 ∧ y = nI (sp_wi A i (sp_wo A i) j).2 ∧ z = nI (i + 1 + j) ∧ mq M m) (A 6 0 - (i + 1)) (by omega) ?_ ?_ ⟨rfl, rfl, rfl, hm⟩
    · rintro j hj x y z m ⟨rfl, rfl, rfl, hm⟩ k2
      left
      have hvm := hm.rm hv
      obtain ⟨N3, e1, e2⟩ := xr_swap1 hvm hok (i := i) (j := i + 1 + j) (by omega) (by omega) (by omega)
      have b1 := sp_l7_le (hs_ok_sw hok (i := i) (j := i + 1 + j) (by omega) (by omega))
      have b2 := sp_wi_le hok i (sp_wo_le hok i (by omega)) j (by omega)
      rw [hvm.1.1, if_neg (nI_ge (show i + 1 + j < A 6 0 by omega) (by omega)), e1]
      simp only [mi_10, pk_mul, nI_add, nI_1]
      by_cases q : sp_l7 (hs_sw A i (i + 1 + j)) < (sp_wi A i (sp_wo A i) j).2
      · rw [if_pos (nI_lt q (by omega))]
        refine ⟨_, _, _, N3, ⟨?_, ?_, rfl, hm.trans e2⟩, rfl⟩
        · simp only [sp_wi]; rw [if_pos q]; rfl
        · simp only [sp_wi]; rw [if_pos q]
      · rw [if_neg (nI_nlt (by omega) (by omega))]
        refine ⟨_, _, _, N3, ⟨?_, ?_, rfl, hm.trans e2⟩, rfl⟩
        · simp only [sp_wi]; rw [if_neg q]
        · simp only [sp_wi]; rw [if_neg q]
    · rintro x y z m ⟨rfl, rfl, rfl, hm⟩ k2
      rw [(hm.rm hv).1.1, if_pos (nI_le (show A 6 0 ≤ i + 1 + (A 6 0 - (i + 1)) by omega) (by omega))]
      exact ⟨_, _, _, m, ⟨rfl, rfl, rfl, hm⟩, rfl⟩
  · rintro x y z m ⟨rfl, rfl, rfl, hm⟩ k
    rw [(hm.rm hv).1.1, if_pos (nI_le (Nat.le_refl _) (by omega))]
    exact ⟨m, rfl, hm⟩
theorem xr_lots (hv : rm M A) (hok : hs_ok A) {n : Nat} (hn1 : 1 ≤ n) (hn : n ≤ 20) (s : Int32) {w : Nat} (hw : w ≤ 1) : ∃ M', f_X12_lots (nI n) s (nI w) M = some (if w = 0 then nI (hs_lw s A n).2.1 else nI (hs_lw s A n).2.2, M') ∧ mq M M' := by
  have h7 := hok.1
  have eb : f_X12_bound (nI n) 1 20 = some 0 := by
    unfold f_X12_bound
    rw [if_pos (show (1 : Int32) ≤ nI n from nI_le hn1 (by omega)), if_pos (by rw [mi_20]; exact nI_le hn (by decide))]
  have ei : f_X12_isIn (nI w) 0 1 = some 1 := by
    rcases (show w = 0 ∨ w = 1 by omega) with rfl | rfl <;> rfl
  simp only [f_X12_lots, eb, ei, mt_b1E, mt_ltE, if_true, mt_10, if_false, mc_0, mc_1]
  refine mt_lz5 (P := fun r => ∃ M', r = some (if w = 0 then nI (hs_lw s A n).2.1 else nI (hs_lw s A n).2.2, M') ∧ mq M M') (fun i x y z u m => x = (hs_lw s A i).1 ∧ y = nI (hs_lw s A i).2.1 ∧ z = nI (hs_lw s A i).2.2 ∧ u = nI i ∧ mq M m) n (by omega) ?_ ?_ ⟨rfl, rfl, rfl, rfl, mq.rfl' M⟩
  · rintro i hi x y z u m0 ⟨rfl, rfl, rfl, rfl, hm0⟩ k
    left
    obtain ⟨M1, hT, hv1, hF⟩ := xr_mind (hm0.rm hv)
    have e4 := hv1.1.2.2.2.2.1
    have e5 := hv1.1.2.2.2.2.2.1
    rw [if_neg (nI_ge hi (by omega)), hT, mt_b1E, e4, e5]
    refine mt_lz3 (P := fun o => ∃ b1 b2 b3 b4 b5, (b1 = (hs_lw s A (i + 1)).1 ∧ b2 = nI (hs_lw s A (i + 1)).2.1 ∧ b3 = nI (hs_lw s A (i + 1)).2.2 ∧ b4 = nI (i + 1) ∧ mq M b5) ∧ o = k b1 b2 b3 b4 b5) (fun d x y m => x = (hs_ld (hs_lw s A i).1 A d).1 ∧ y = nI d ∧ rm m (hs_ld (hs_lw s A i).1 A d).2 ∧ mi M1 m) 7 (by decide) ?_ ?_ ⟨rfl, rfl, hv1, mi.rfl' M1⟩
    · rintro d hd x y m ⟨rfl, rfl, hm, hx⟩ k2
      left
      obtain ⟨S, eS⟩ : ∃ S, S = hs_ld (hs_lw s A i).1 A d := ⟨_, rfl⟩
      have okS : hs_ok S.2 := by rw [eS]; exact hs_ok_ld hok _ d
      have S0 : S.2 6 0 = A 6 0 := by rw [eS, hs_ld_0]
      rw [← eS] at hm ⊢
      rw [mi_7, if_neg (nI_ge hd (by omega))]
      refine mt_lz3 (P := fun o => ∃ b1 b2 b3, (b1 = (hs_ld (hs_lw s A i).1 A (d + 1)).1 ∧ b2 = nI (d + 1) ∧ rm b3 (hs_ld (hs_lw s A i).1 A (d + 1)).2 ∧ mi M1 b3) ∧ o = k2 b1 b2 b3) (fun j x y m => x = (hs_lt S.1 S.2 j).1 ∧ y = nI j ∧ rm m (hs_lt S.1 S.2 j).2 ∧ mi M1 m) (A 6 0) (by omega) ?_ ?_ ⟨rfl, rfl, hm, hx⟩
      · rintro j hj x y m ⟨rfl, rfl, hm, hx⟩ k3
        left
        have okL := hs_ok_lt okS S.1 j
        have e0 : (hs_lt S.1 S.2 j).2 6 0 = A 6 0 := by rw [hs_lt_6 _ _ _ (by decide), S0]
        have h8 := hm.1.1
        rw [e0] at h8
        rw [h8, if_neg (nI_ge hj (by omega)), show (hs_lt S.1 S.2 j).1 * 1103515245 + 12345 = sp_dn (hs_lt S.1 S.2 j).1 from rfl, sp_dw_e]
        have hdl := sp_dw_lt (sp_dn (hs_lt S.1 S.2 j).1)
        by_cases z : sp_dw (sp_dn (hs_lt S.1 S.2 j).1) = 1
        · obtain ⟨N, q1, q2, q3⟩ := xr_gets hm okL (t := j) (by omega)
          rw [z, if_pos (show nI 1 = 1 from rfl), q1, mt_b1E]
          refine ⟨_, _, N, ⟨rfl, rfl, ?_, hx.trans q3⟩, by rw [nI_1]; rfl⟩
          simp only [hs_lt]
          rw [z]
          exact q2
        · have z0 : sp_dw (sp_dn (hs_lt S.1 S.2 j).1) = 0 := by omega
          rw [z0, if_neg (show ¬ nI 0 = 1 by decide)]
          refine ⟨_, _, m, ⟨rfl, rfl, ?_, hx⟩, by rw [nI_1]; rfl⟩
          simp only [hs_lt]
          rw [z0, hs_buy_0 (okL.2 j (by omega)).2.2.2]
          exact hm
      · rintro x y m ⟨rfl, rfl, hm, hx⟩ k3
        have h8 := hm.1.1
        rw [hs_lt_6 _ _ _ (by decide), S0] at h8
        obtain ⟨N, q1, q2, q3⟩ := xr_goes hm (hs_ok_lt okS S.1 _)
        rw [h8, if_pos (nI_le (Nat.le_refl _) (by omega)), q1, mt_b2E]
        refine ⟨_, _, N, ⟨?_, rfl, ?_, hx.trans q3⟩, by rw [nI_1]⟩
        · simp only [hs_ld]; rw [← eS]
        · simp only [hs_ld]; rw [← eS]; exact q2
    · rintro x y m ⟨rfl, rfl, hm, hx⟩ k2
      obtain ⟨M3, g1, g2⟩ := hF m hx
      have h45 := hs_ld_45 hok (hs_lw s A i).1 7
      rw [mi_7, if_pos (nI_le (Nat.le_refl _) (by omega)), hm.1.2.2.2.2.1, hm.1.2.2.2.2.2.1, mt_sa h45.2, mt_sa h45.1, g1, mt_b1E]
      refine ⟨_, _, _, _, M3, ⟨?_, ?_, ?_, rfl, hm0.trans g2⟩, by rw [nI_1]⟩
      · simp only [hs_lw]; rw [sp_e7]
      · simp only [hs_lw]; rw [sp_e7]
      · simp only [hs_lw]; rw [sp_e7]
  · rintro x y z u m ⟨rfl, rfl, rfl, rfl, hm⟩ k
    rw [if_pos (nI_le (Nat.le_refl _) (by omega))]
    by_cases h : w = 0
    · rw [if_pos (show nI w = 0 by rw [h]; rfl), if_pos h]
      exact ⟨m, rfl, hm⟩
    · rw [if_neg (nI_ne0 (by omega) (by omega)), if_neg h]
      exact ⟨m, rfl, hm⟩
theorem xr_judge (hv : rm M A) (hok : hs_ok A) (ht : t < A 6 0) {rr : Nat → Nat} {n : Nat} (hn : n ≤ 12) (h27 : M 147 27 = nI n) (hr : ∀ k, k < n → M 162 k = nI (rr k)) (hrb : ∀ k, k < n → rr k ≤ 99) : ∃ M', f_X12_judge (nI t) M = some (sp_ov (sp_jd A rr t n), M') ∧ mq (mt_wr M 147 27 0) M' := by
  have h7 := hok.1
  have hin : vp_in (nI t) 7 := vp_in_nI (by omega) (by omega)
  have hcl : (nI t).toNatClampNeg = t := nI_clamp (by omega)
  have hv0 : rm (mt_wr M 147 27 0) A := by
    refine rm_eq (fun j hj => ?_) hv
    unfold rf
    simp only [mt_wr_ne (show (149 : Nat) ≠ 147 by decide), mt_wr_ne (show (150 : Nat) ≠ 147 by decide), mt_wr_ne (show (151 : Nat) ≠ 147 by decide), mt_wr_ne (show (152 : Nat) ≠ 147 by decide), mt_wr_ne (show (153 : Nat) ≠ 147 by decide), mt_wr_ne (show (154 : Nat) ≠ 147 by decide), mt_wr_ne (show (155 : Nat) ≠ 147 by decide), mt_wr_n (show j - 51 ≠ 27 by omega)]
  obtain ⟨M1, hT, hv1, hF⟩ := xr_mind hv0
  have hr1 : ∀ k, k < n → M1 162 k = nI (rr k) := fun k hk => by
    obtain ⟨N1, a1, a2, a3⟩ := xm_thinks (M := mt_wr M 147 27 0)
    obtain rfl := Option.some.inj (a1.symm.trans hT)
    rw [a3 162 k (by decide) (Or.inl (by decide)), mt_wr_ne (by decide)]
    exact hr k hk
  have ex : ∀ (x : Int32) (m : mt_M), mi M1 m → ∃ M', (mt_b1 (f_X12_forgets m) fun M16 => some (x, M16)) = some (x, M') ∧ mq (mt_wr M 147 27 0) M' := fun x m h => by
    obtain ⟨M3, g1, g2⟩ := hF m h
    exact ⟨M3, by rw [g1]; rfl, g2⟩
  have pos : sp_jd A rr t n ≠ none → 0 ≤ sp_ov (sp_jd A rr t n) := fun h => (sp_ov_neg (fun i hi => by
    have h1 := (sp_find_lt hi).1
    omega)).2.1.mpr h
  simp only [f_X12_judge, xm_isT hv h7 ht, mt_b1E, mt_ltE, mt_10, if_false, hT, h27]
  refine mt_lz3 (P := fun r => ∃ M', r = some (sp_ov (sp_jd A rr t n), M') ∧ mq (mt_wr M 147 27 0) M') (fun i x y m => mi M1 m ∧ ((x = -9 ∧ y = nI i ∧ rm m (hs_days A i) ∧ ∀ j, j < i → (!(sp_sN (A 0 t) (A 1 t) (A 2 t) j (A 3 t) == rr j)) = false) ∨ (x = sp_ov (sp_jd A rr t n) ∧ sp_jd A rr t n ≠ none))) n (by omega) ?_ ?_ ⟨mi.rfl' M1, Or.inl ⟨rfl, rfl, hv1, fun j hj => absurd hj (by omega)⟩⟩
  · rintro i hi x y m ⟨hx, ⟨rfl, rfl, hm, hno⟩ | ⟨rfl, hne⟩⟩ kk
    · left
      have okD := hs_ok_days hok i
      have D0 : hs_days A i 6 0 = A 6 0 := hs_days_n _ _ (by decide) (by decide) (by decide)
      obtain ⟨M', h1, h2, h3⟩ := xr_goes hm okD
      have hin2 : vp_in (nI i) 12 := vp_in_nI (by omega) (by omega)
      have hcl2 : (nI i).toNatClampNeg = i := nI_clamp (by omega)
      obtain ⟨-, -, -, a4, -⟩ := hm.2 t (by omega) (by omega)
      rw [hs_days_3, if_pos ht] at a4
      have b4 := sp_sN_le (A 0 t) (A 1 t) (A 2 t) i (hok.2 t ht).2.2.2
      have r4 := hrb i hi
      have e162 : m 162 i = nI (rr i) := (hx 162 i (by decide) (by decide) (Or.inl (by decide))).trans (hr1 i hi)
      rw [if_neg (nI_ge hi (by omega)), if_neg (show ¬ (0 : Int32) ≤ -9 by decide)]
      simp only [mt_ci_t hin, mt_ci_t hin2, hcl, hcl2, a4, e162, h1, mt_b2E, nI_1]
      by_cases z : sp_sN (A 0 t) (A 1 t) (A 2 t) i (A 3 t) = rr i
      · rw [z, if_pos rfl]
        refine ⟨_, _, M', ⟨hx.trans h3, Or.inl ⟨rfl, rfl, h2, ?_⟩⟩, rfl⟩
        intro j hj
        by_cases q : j = i
        · subst q; simp [z]
        · exact hno j (by omega)
      · rw [if_neg (fun w => z ((nI_eq (by omega) (by omega)).mp w))]
        have e : sp_jd A rr t n = some i := by
          unfold sp_jd
          rw [sp_find_some hi (by simp [z]) hno]
        exact ⟨_, _, M', ⟨hx.trans h3, Or.inr ⟨by rw [e]; rfl, by rw [e]; exact fun h => by cases h⟩⟩, rfl⟩
    · right
      rw [if_pos (pos hne), ite_self]
      exact ex _ m hx
  · rintro x y m ⟨hx, ⟨rfl, rfl, hm, hno⟩ | ⟨rfl, hne⟩⟩ kk
    · have e : sp_jd A rr t n = none := by
        unfold sp_jd
        rw [sp_find_none hno]
      rw [if_pos (nI_le (Nat.le_refl _) (by omega)), e]
      exact ex _ m hx
    · rw [if_pos (pos hne), ite_self]
      exact ex _ m hx
/-- judge, the class -/
theorem xn_judge (hv : cv 13 M A) (hok : hs_ok A) (ht : t < A 6 0) {rr : Nat → Nat} {n : Nat} (hn : n ≤ 12) (h8 : M 0 8 = nI n) (hr : ∀ k, k < n → M 1 k = nI (rr k)) (hrb : ∀ k, k < n → rr k ≤ 99) : ∃ M', f_X11_judge (nI t) M = some (sp_ov (sp_jd A rr t n), mt_wr M' 0 8 0) ∧ xn M M' := by
  have h7 := hok.1
  simp only [f_X11_judge, xc_hasT hv h7 ht, mt_b1E, mt_10, if_false, mt_ltE]
  refine mt_lz3 (P := fun r => ∃ M', r = some (sp_ov (sp_jd A rr t n), mt_wr M' 0 8 0) ∧ xn M M') (fun i x y m => xn M m ∧ ((x = -9 ∧ y = nI i ∧ ∀ j, j < i → (!(sp_sN (A 0 t) (A 1 t) (A 2 t) j (A 3 t) == rr j)) = false) ∨ (x = sp_ov (sp_jd A rr t n) ∧ sp_jd A rr t n ≠ none))) n (by omega) ?_ ?_ ⟨xn.rfl' M, Or.inl ⟨rfl, rfl, fun j hj => absurd hj (by omega)⟩⟩
  · rintro i hi x y m ⟨hx, ⟨rfl, rfl, hno⟩ | ⟨rfl, hne⟩⟩ kk
    · left
      have hin2 : vp_in (nI i) 12 := vp_in_nI (by omega) (by omega)
      have hcl2 : (nI i).toNatClampNeg = i := nI_clamp (by omega)
      obtain ⟨N, n1, n2⟩ := xn_stockBehind (hx.cv hv) hok ht (n := i) (by omega)
      have b4 := sp_sN_le (A 0 t) (A 1 t) (A 2 t) i (hok.2 t ht).2.2.2
      have r4 := hrb i hi
      have e1 : m 1 i = nI (rr i) := by rw [hx 1 (by omega)]; exact hr i hi
      have e0 : m 0 8 = nI n := by rw [hx 0 (by omega)]; exact h8
      rw [e0, if_neg (nI_ge hi (by omega)), if_pos (show (-9 : Int32) = -9 from rfl), mt_ci_t hin2, n1]
      simp only [mt_b2E, hcl2, e1, nI_1]
      by_cases z : sp_sN (A 0 t) (A 1 t) (A 2 t) i (A 3 t) = rr i
      · rw [z, if_pos rfl]
        refine ⟨_, _, N, ⟨hx.trans n2, Or.inl ⟨rfl, rfl, ?_⟩⟩, rfl⟩
        intro j hj
        by_cases q : j = i
        · subst q; simp [z]
        · exact hno j (by omega)
      · rw [if_neg (fun w => z ((nI_eq (by omega) (by omega)).mp w.symm))]
        have e : sp_jd A rr t n = some i := by
          unfold sp_jd
          rw [sp_find_some hi (by simp [z]) hno]
        exact ⟨_, _, N, ⟨hx.trans n2, Or.inr ⟨by rw [e]; rfl, by rw [e]; exact fun h => by cases h⟩⟩, rfl⟩
    · right
      cases q : sp_jd A rr t n with
      | none => exact absurd q hne
      | some d =>
        have hd := (sp_find_lt q).1
        rw [if_neg (sp_ovN (show d < 2 ^ 31 by omega)), ite_self]
        exact ⟨m, rfl, hx⟩
  · rintro x y m ⟨hx, ⟨rfl, rfl, hno⟩ | ⟨rfl, hne⟩⟩ kk
    · have e : sp_jd A rr t n = none := by
        unfold sp_jd
        rw [sp_find_none hno]
      have e0 : m 0 8 = nI n := by rw [hx 0 (by omega)]; exact h8
      rw [e0, if_pos (nI_le (Nat.le_refl _) (by omega)), e]
      exact ⟨m, rfl, hx⟩
    · cases q : sp_jd A rr t n with
      | none => exact absurd q hne
      | some d =>
        have hd := (sp_find_lt q).1
        rw [if_neg (sp_ovN (show d < 2 ^ 31 by omega)), ite_self]
        exact ⟨m, rfl, hx⟩
end XR4

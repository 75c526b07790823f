/-! THE REFERENCE'S LISTS -/
theorem sp_0sh : ∀ r, r < 31 → (0 : Int32) <<< (nI r &&& 31) = nI 0 := by decide +kernel
theorem sp_bt_or (b : Nat → Bool) (n : Nat) (hn : n < 31) : nI (sp_mk b n) ||| ((if b n = true then (1 : Int32) else 0) <<< (nI n &&& 31)) = nI (sp_mk b (n + 1)) := by
  simp only [sp_mk]
  cases b n with
  | true => rw [if_pos rfl, if_pos rfl, nx_shl hn, nx_or]
  | false => rw [if_neg (by decide), if_neg (by decide), sp_0sh n hn, nx_or]
theorem sp_bit_or (b : Nat → Bool) (n : Nat) (hn : n < 31) : nI (sp_mk b n) ||| (if b n = true then ((1 : Int32) <<< (nI n &&& 31)) else 0) = nI (sp_mk b (n + 1)) := by
  simp only [sp_mk]
  cases b n with
  | true => rw [if_pos rfl, if_pos rfl, nx_shl hn, nx_or]
  | false => rw [if_neg (by decide), if_neg (by decide), mi_0, nx_or]
theorem kd_wb : ∀ p q c d : Bool, ∀ r, r < 4 → (if nI r = (1 : Int32) then some ((if p = true then (1 : Int32) else 0) ||| (if q = true then (1 : Int32) else 0)) else if nI r = (3 : Int32) then (if (if c = true then (1 : Int32) else 0) = 0 then (if nI r = (2 : Int32) then some ((if p = true then (1 : Int32) else 0) &&& (if q = true then (1 : Int32) else 0)) else if (if d = true then (1 : Int32) else 0) = (1 : Int32) then some (if q = true then (1 : Int32) else 0) else some (if p = true then (1 : Int32) else 0)) else some ((if p = true then (1 : Int32) else 0) ||| (if q = true then (1 : Int32) else 0))) else (if nI r = (2 : Int32) then some ((if p = true then (1 : Int32) else 0) &&& (if q = true then (1 : Int32) else 0)) else if (if d = true then (1 : Int32) else 0) = (1 : Int32) then some (if q = true then (1 : Int32) else 0) else some (if p = true then (1 : Int32) else 0))) = some (if (if r = 1 then p || q else if r = 2 then p && q else if r = 3 then (if c = true then p || q else if d = true then q else p) else if d = true then q else p) = true then (1 : Int32) else 0) := by decide +kernel
section XH
variable {M : mt_M} {A : hs_A} {t : Nat}
theorem xm_wants (hv : rm M A) (hwf : hs_wf A) {l : Nat} (hl : l < 2) : f_X12_wants (nI l) M = some (nI (A 6 (7 + l))) := by
  have h7 := hwf.1.1
  have hb : A 6 (7 + l) < 2 ^ A 6 0 := by
    rcases (show l = 0 ∨ l = 1 by omega) with rfl | rfl
    · exact hwf.2.2.1.1
    · exact hwf.2.2.1.2
  have e0 : sp_mk (A 6 (7 + l)).testBit (A 6 0) = A 6 (7 + l) := sp_mk_id hb
  unfold f_X12_wants
  refine mt_lz2 (P := fun r => r = some (nI (A 6 (7 + l)))) (fun i x y => x = nI (sp_mk (A 6 (7 + l)).testBit i) ∧ y = nI i) (A 6 0) (by omega) ?_ ?_ ⟨rfl, rfl⟩
  · rintro i hi x y ⟨rfl, rfl⟩ k
    left
    have hin : vp_in (nI (7 * l + i)) 14 := vp_in_nI (by omega) (by omega)
    have hcl : (nI (7 * l + i)).toNatClampNeg = 7 * l + i := nI_clamp (by omega)
    obtain ⟨-, -, -, -, w0, w1, -, -⟩ := hv.2 i hi (by omega)
    have ew : M 153 (7 * l + i) = if (A 6 (7 + l)).testBit i = true then 1 else 0 := by
      rcases (show l = 0 ∨ l = 1 by omega) with rfl | rfl
      · rw [show 7 * 0 + i = i by omega]; exact w0
      · exact w1
    have e := sp_bt_or (A 6 (7 + l)).testBit i (by omega)
    refine ⟨_, _, ⟨rfl, rfl⟩, ?_⟩
    rw [hv.1.1, if_neg (nI_ge hi (by omega))]
    simp only [mt_ltE, mi_7, pk_mul, nI_add, mt_ci_t hin, hcl, ew, e, nI_1]
  · rintro x y ⟨rfl, rfl⟩ k
    rw [hv.1.1, if_pos (nI_le (Nat.le_refl _) (by omega)), e0]
theorem xm_laterL (c0 : M 154 t = nI (A 4 t)) (c1 : M 154 (7 + t) = nI (A 5 t)) (ht : t < 7) : f_X12_later (nI t) M = some (if sp_lr A t 0 = true then 1 else 0) := by
  have hin : vp_in (nI t) 14 := vp_in_nI (by omega) (by omega)
  have hcl : (nI t).toNatClampNeg = t := nI_clamp (by omega)
  have hin7 : vp_in (nI (7 + t)) 14 := vp_in_nI (by omega) (by omega)
  have hcl7 : (nI (7 + t)).toNatClampNeg = 7 + t := nI_clamp (by omega)
  simp only [f_X12_later, mi_7, nI_add, mt_ci_t hin, mt_ci_t hin7, hcl, hcl7, c0, c1]
  unfold sp_lr
  have e : nI (A 5 t) + 0 = nI (A 5 t) := nI_add (A 5 t) 0
  rw [e]
  by_cases q : nI (A 5 t) ≤ nI (A 4 t)
  · simp [q]
  · simp [q]
theorem xm_wbL (w0 : M 153 t = sp_bt (A 6 7) t) (w1 : M 153 (7 + t) = sp_bt (A 6 8) t) (c0 : M 154 t = nI (A 4 t)) (c1 : M 154 (7 + t) = nI (A 5 t)) (b0 : A 4 t ≤ 999) (b1 : A 5 t ≤ 999) (ht : t < 7) {r : Nat} (hr : r ≤ 3) : f_X12_wantedBy (nI r) (nI t) M = some (if sp_wb A r t = true then 1 else 0) := by
  have hin : vp_in (nI t) 14 := vp_in_nI (by omega) (by omega)
  have hcl : (nI t).toNatClampNeg = t := nI_clamp (by omega)
  have hin7 : vp_in (nI (7 + t)) 14 := vp_in_nI (by omega) (by omega)
  have hcl7 : (nI (7 + t)).toNatClampNeg = 7 + t := nI_clamp (by omega)
  have ei : f_X12_isIn (nI (A 4 t) - nI (A 5 t)) (-2) 2 = some (if sp_cl A 2 t = true then 1 else 0) := by
    have h : f_X12_isIn (nI (A 4 t) - nI (A 5 t)) (-2) 2 = some (if A 4 t - A 5 t + (A 5 t - A 4 t) ≤ 2 then 1 else 0) := mt_isIn b0 b1 (a := 2) (by decide)
    rw [h]
    unfold sp_cl
    simp only [decide_eq_true_eq]
  have el := xm_laterL c0 c1 ht
  simp only [f_X12_wantedBy, mi_7, nI_add, mt_ci_t hin, mt_ci_t hin7, hcl, hcl7, w0, w1, c0, c1, mt_ltE, ei, mt_b1E, el]
  exact kd_wb ((A 6 7).testBit t) ((A 6 8).testBit t) (sp_cl A 2 t) (sp_lr A t 0) r (by omega)
theorem xm_later (hv : rm M A) (hwf : hs_wf A) (ht : t < A 6 0) : f_X12_later (nI t) M = some (if sp_lr A t 0 = true then 1 else 0) := by
  have h7 := hwf.1.1
  obtain ⟨-, -, -, -, -, -, c0, c1⟩ := hv.2 t ht (by omega)
  exact xm_laterL c0 c1 (by omega)
theorem xm_wb (hv : rm M A) (hwf : hs_wf A) (ht : t < A 6 0) {r : Nat} (hr : r ≤ 3) : f_X12_wantedBy (nI r) (nI t) M = some (if sp_wb A r t = true then 1 else 0) := by
  have h7 := hwf.1.1
  obtain ⟨-, -, -, -, w0, w1, c0, c1⟩ := hv.2 t ht (by omega)
  obtain ⟨b0, b1, -⟩ := hwf.2.2.2.1 t (by omega)
  exact xm_wbL w0 w1 c0 c1 b0 b1 (by omega) hr
theorem xm_wantsBy (hv : rm M A) (hwf : hs_wf A) {r : Nat} (hr : r ≤ 3) : f_X12_wantsBy (nI r) M = some (nI (sp_mk (sp_wb A r) (A 6 0))) := by
  have h7 := hwf.1.1
  unfold f_X12_wantsBy
  refine mt_lz2 (P := fun o => o = some (nI (sp_mk (sp_wb A r) (A 6 0)))) (fun i x y => x = nI (sp_mk (sp_wb A r) i) ∧ y = nI i) (A 6 0) (by omega) ?_ ?_ ⟨rfl, rfl⟩
  · rintro i hi x y ⟨rfl, rfl⟩ k
    left
    have e := sp_bt_or (sp_wb A r) i (by omega)
    refine ⟨_, _, ⟨rfl, rfl⟩, ?_⟩
    rw [hv.1.1, if_neg (nI_ge hi (by omega)), xm_wb hv hwf hi hr]
    simp only [mt_b1E, mt_ltE, e, nI_1]
  · rintro x y ⟨rfl, rfl⟩ k
    rw [hv.1.1, if_pos (nI_le (Nat.le_refl _) (by omega))]
theorem xm_latestWants (hv : rm M A) (hwf : hs_wf A) : f_X12_latestWants M = some (nI (sp_mk (sp_lw A 0) (A 6 0))) := by
  have h7 := hwf.1.1
  have e0 : sp_wb A 0 = sp_lw A 0 := by funext t; rfl
  rw [← e0]
  unfold f_X12_latestWants
  refine mt_lz2 (P := fun o => o = some (nI (sp_mk (sp_wb A 0) (A 6 0)))) (fun i x y => x = nI (sp_mk (sp_wb A 0) i) ∧ y = nI i) (A 6 0) (by omega) ?_ ?_ ⟨rfl, rfl⟩
  · rintro i hi x y ⟨rfl, rfl⟩ k
    left
    have e := sp_bt_or (sp_wb A 0) i (by omega)
    have e2 : f_X12_wantedBy 0 (nI i) M = some (if sp_wb A 0 i = true then 1 else 0) := xm_wb hv hwf hi (r := 0) (by decide)
    refine ⟨_, _, ⟨rfl, rfl⟩, ?_⟩
    rw [hv.1.1, if_neg (nI_ge hi (by omega)), e2]
    simp only [mt_b1E, mt_ltE, e, nI_1]
  · rintro x y ⟨rfl, rfl⟩ k
    rw [hv.1.1, if_pos (nI_le (Nat.le_refl _) (by omega))]
theorem xm_wrong (hv : rm M A) (hwf : hs_wf A) {r : Nat} (hr : r ≤ 3) : f_X12_wrongBy (nI r) M = some (nI (sp_wr A r)) := by
  have h7 := hwf.1.1
  have l1 := sp_lt7 (sp_mk_lt (fun t => sp_lw A 0 t ^^ sp_wb A r t) (A 6 0)) h7
  have e : f_X12_bits (nI (sp_mk (fun t => sp_lw A 0 t ^^ sp_wb A r t) (A 6 0))) = some (nI (sp_wr A r)) := xm_bits (by omega)
  simp only [f_X12_wrongBy, xm_latestWants hv hwf, xm_wantsBy hv hwf hr, mt_b1E, nx_xor, sp_mk_xor, e]
/-- the best rule -/
theorem xm_best (hv : rm M A) (hwf : hs_wf A) {w : Int32} (hw : w = 0 ∨ w = 1) : f_X12_bestRule w M = some (if w = 0 then nI (sp_br A 2) else nI (sp_wr A (sp_br A 2)), M) := by
  have ei : f_X12_isIn w 0 1 = some 1 := by rcases hw with rfl | rfl <;> rfl
  simp only [f_X12_bestRule, ei, mt_b1E, mt_10, if_false]
  refine mt_lz2 (P := fun r => r = some (if w = 0 then nI (sp_br A 2) else nI (sp_wr A (sp_br A 2)), M)) (fun i x y => x = nI (sp_br A i) ∧ y = nI (i + 2)) 2 (by decide) ?_ ?_ ⟨rfl, rfl⟩
  · rintro i hi x y ⟨rfl, rfl⟩ k
    left
    have hb := sp_br_le A i
    have l1 := sp_wr_le A (i + 2)
    have l2 := sp_wr_le A (sp_br A i)
    refine ⟨_, _, ⟨rfl, rfl⟩, ?_⟩
    rw [mi_4, if_neg (nI_ge (show i + 2 < 4 by omega) (by omega)), xm_wrong hv hwf (show i + 2 ≤ 3 by omega), xm_wrong hv hwf (show sp_br A i ≤ 3 by omega)]
    simp only [mt_b1E, mt_ltE, nI_1, sp_br]
    by_cases q : sp_wr A (sp_br A i) ≤ sp_wr A (i + 2)
    · rw [if_pos (nI_le q (by omega)), if_pos q]
    · rw [if_neg (nI_ge (by omega) (by omega)), if_neg q]
  · rintro x y ⟨rfl, rfl⟩ k
    have hb := sp_br_le A 2
    rw [mi_4, if_pos (nI_le (by decide) (by decide)), xm_wrong hv hwf (show sp_br A 2 ≤ 3 by omega)]
    rcases hw with rfl | rfl
    · rfl
    · rfl
/-- the latest line -/
theorem xm_latest (hv : rm M A) (hwf : hs_wf A) : f_X12_latest M = some (sp_ov (sp_ll A (2 * A 6 0)).2) := by
  have h7 := hwf.1.1
  have bll : ∀ m, m ≤ 2 * A 6 0 → (sp_ll A m).1 ≤ 999 := by
    intro m
    induction m with
    | zero => intro _; exact Nat.zero_le _
    | succ m ih =>
      intro hm
      simp only [sp_ll]
      split
      · obtain ⟨b0, b1, -⟩ := hwf.2.2.2.1 (m / 2) (by omega)
        show sp_cK A (m % 2) (m / 2) ≤ 999
        unfold sp_cK
        split
        · exact b0
        · exact b1
      · exact ih (by omega)
  unfold f_X12_latest
  refine mt_lz3 (P := fun r => r = some (sp_ov (sp_ll A (2 * A 6 0)).2)) (fun i x y z => x = sp_ov (sp_ll A i).2 ∧ y = nI (sp_ll A i).1 ∧ z = nI i) (2 * A 6 0) (by omega) ?_ ?_ ⟨rfl, rfl, rfl⟩
  · rintro i hi x y z ⟨rfl, rfl, rfl⟩ k
    left
    have hb := bll i (by omega)
    obtain ⟨b0, b1, -⟩ := hwf.2.2.2.1 (i / 2) (by omega)
    have hc : sp_cK A (i % 2) (i / 2) ≤ 999 := by unfold sp_cK; split; exact b0; exact b1
    obtain ⟨-, -, -, -, -, -, c0, c1⟩ := hv.2 (i / 2) (by omega) (by omega)
    have hin : vp_in (nI (7 * (i % 2) + i / 2)) 14 := vp_in_nI (by omega) (by omega)
    have hcl : (nI (7 * (i % 2) + i / 2)).toNatClampNeg = 7 * (i % 2) + i / 2 := nI_clamp (by omega)
    have ec : M 154 (7 * (i % 2) + i / 2) = nI (sp_cK A (i % 2) (i / 2)) := by
      unfold sp_cK
      rcases (show i % 2 = 0 ∨ i % 2 = 1 by omega) with q | q
      · rw [q, if_pos rfl, show 7 * 0 + i / 2 = i / 2 by omega]; exact c0
      · rw [q, if_neg (by decide), show 7 * 1 + i / 2 = 7 + i / 2 by omega]; exact c1
    rw [hv.1.1, mi_2, pk_mul, if_neg (nI_ge hi (by omega))]
    have er : nI i - nI (i / 2 * 2) = nI (i % 2) := by rw [pk_sub (by omega)]; congr 1; omega
    simp only [pk_div (show i < 2 ^ 31 by omega) (show 0 < 2 by decide) (by decide), mi_7, mi_10, pk_mul, er, nI_add, mt_ltE, mt_ci_t hin, hcl, ec, nI_1, sp_ll]
    by_cases q : (sp_ll A i).1 < sp_cK A (i % 2) (i / 2)
    · rw [if_pos (nI_lt q (by omega)), if_pos q]
      exact ⟨_, _, _, ⟨rfl, rfl, rfl⟩, rfl⟩
    · rw [if_neg (nI_nlt (by omega) (by omega)), if_neg q]
      exact ⟨_, _, _, ⟨rfl, rfl, rfl⟩, rfl⟩
  · rintro x y z ⟨rfl, rfl, rfl⟩ k
    rw [hv.1.1, mi_2, pk_mul, if_pos (nI_le (Nat.le_refl _) (by omega))]
theorem sp_bt_eq (p : Bool) (w t : Nat) : (sp_bt w t = (if p = true then (1 : Int32) else 0)) = (w.testBit t = p) := by
  unfold sp_bt
  cases w.testBit t <;> cases p <;> simp
/-- skew, close -/
theorem xm_skew (hv : rm M A) (hwf : hs_wf A) {v : Int32} (hr : f_X12_bound v (-9) 9 = some 0) : f_X12_skew v M = some (nI (sp_mk (fun t => sp_lw A 0 t ^^ sp_lw A v t) (A 6 0)), M) := by
  have h7 := hwf.1.1
  simp only [f_X12_skew, hr, mt_b1E, if_true]
  refine mt_lz2 (P := fun r => r = some (nI (sp_mk (fun t => sp_lw A 0 t ^^ sp_lw A v t) (A 6 0)), M)) (fun i x y => x = nI (sp_mk (fun t => sp_lw A 0 t ^^ sp_lw A v t) i) ∧ y = nI i) (A 6 0) (by omega) ?_ ?_ ⟨rfl, rfl⟩
  · rintro i hi x y ⟨rfl, rfl⟩ k
    left
    have hin : vp_in (nI i) 14 := vp_in_nI (by omega) (by omega)
    have hcl : (nI i).toNatClampNeg = i := nI_clamp (by omega)
    have hin7 : vp_in (nI (7 + i)) 14 := vp_in_nI (by omega) (by omega)
    have hcl7 : (nI (7 + i)).toNatClampNeg = 7 + i := nI_clamp (by omega)
    obtain ⟨-, -, -, -, w0, w1, c0, c1⟩ := hv.2 i hi (by omega)
    have e := sp_bit_or (fun t => sp_lw A 0 t ^^ sp_lw A v t) i (by omega)
    have e2 : f_X12_wantedBy 0 (nI i) M = some (if sp_lw A 0 i = true then 1 else 0) := xm_wb hv hwf hi (r := 0) (by decide)
    refine ⟨_, _, ⟨rfl, rfl⟩, ?_⟩
    rw [hv.1.1, if_neg (nI_ge hi (by omega))]
    rw [← e]
    simp only [mt_ltE, mi_7, nI_add, mt_ci_t hin, mt_ci_t hin7, hcl, hcl7, w0, w1, c0, c1, e2, mt_b1E, nI_1, mt_00, mt_10, if_true, if_false, sp_bt_eq]
    have el : sp_lw A v i = if nI (A 5 i) + v ≤ nI (A 4 i) then (A 6 7).testBit i else (A 6 8).testBit i := by
      unfold sp_lw sp_lr
      by_cases z : nI (A 5 i) + v ≤ nI (A 4 i)
      · simp [z]
      · simp [z]
    by_cases z : nI (A 5 i) + v ≤ nI (A 4 i)
    · simp only [if_pos z] at el
      simp only [if_pos z, el, mt_ci_t hin, hcl, w0, sp_bt_eq]
      by_cases z2 : (A 6 7).testBit i = sp_lw A 0 i
      · rw [if_pos z2, z2]; simp
      · rw [if_neg z2]
        have : (sp_lw A 0 i ^^ (A 6 7).testBit i) = true := by
          revert z2
          cases sp_lw A 0 i <;> cases (A 6 7).testBit i <;> simp
        rw [this]; simp
    · simp only [if_neg z] at el
      simp only [if_neg z, el, mt_ci_t hin7, hcl7, w1, sp_bt_eq]
      by_cases z2 : (A 6 8).testBit i = sp_lw A 0 i
      · rw [if_pos z2, z2]; simp
      · rw [if_neg z2]
        have : (sp_lw A 0 i ^^ (A 6 8).testBit i) = true := by
          revert z2
          cases sp_lw A 0 i <;> cases (A 6 8).testBit i <;> simp
        rw [this]; simp
  · rintro x y ⟨rfl, rfl⟩ k
    rw [hv.1.1, if_pos (nI_le (Nat.le_refl _) (by omega))]
def sp_cs (A : hs_A) (v t : Nat) : Bool := sp_cl A v t && !decide (A 4 t = 0 ∧ A 5 t = 0)
theorem xm_close (hv : rm M A) (hwf : hs_wf A) {v : Nat} (hvv : v ≤ 9) : f_X12_close (nI v) M = some (nI (sp_mk (sp_cs A v) (A 6 0)), M) := by
  have h7 := hwf.1.1
  have hr : f_X12_bound (nI v) 0 9 = some 0 := by
    unfold f_X12_bound
    rw [if_pos (nI_pos' (by omega)), mi_9, if_pos (nI_le hvv (by omega))]
  simp only [f_X12_close, hr, mt_b1E, if_true]
  refine mt_lz2 (P := fun r => r = some (nI (sp_mk (sp_cs A v) (A 6 0)), M)) (fun i x y => x = nI (sp_mk (sp_cs A v) i) ∧ y = nI i) (A 6 0) (by omega) ?_ ?_ ⟨rfl, rfl⟩
  · rintro i hi x y ⟨rfl, rfl⟩ k
    left
    have hin : vp_in (nI i) 14 := vp_in_nI (by omega) (by omega)
    have hcl : (nI i).toNatClampNeg = i := nI_clamp (by omega)
    have hin7 : vp_in (nI (7 + i)) 14 := vp_in_nI (by omega) (by omega)
    have hcl7 : (nI (7 + i)).toNatClampNeg = 7 + i := nI_clamp (by omega)
    obtain ⟨-, -, -, -, w0, w1, c0, c1⟩ := hv.2 i hi (by omega)
    obtain ⟨b0, b1, -⟩ := hwf.2.2.2.1 i (by omega)
    have e := sp_bit_or (sp_cs A v) i (by omega)
    refine ⟨_, _, ⟨rfl, rfl⟩, ?_⟩
    rw [hv.1.1, if_neg (nI_ge hi (by omega))]
    rw [← e]
    simp only [mt_ltE, mi_7, nI_add, mt_ci_t hin, mt_ci_t hin7, hcl, hcl7, c0, c1, mt_isIn b0 b1 (show v ≤ 999 by omega), mt_b1E, nI_1]
    unfold sp_cs sp_cl
    by_cases z : A 4 i - A 5 i + (A 5 i - A 4 i) ≤ v
    · rw [if_pos z, if_neg (by decide)]
      by_cases z2 : A 4 i = 0 ∧ A 5 i = 0
      · rw [if_pos (show nI (A 4 i + A 5 i) ≤ 0 by rw [z2.1, z2.2]; decide)]
        simp [z, z2]
      · rw [if_neg (nI_nle (by omega) (by omega))]
        simp [z, z2]
    · rw [if_neg z, if_pos rfl]
      simp [z]
  · rintro x y ⟨rfl, rfl⟩ k
    rw [hv.1.1, if_pos (nI_le (Nat.le_refl _) (by omega))]
/-- worth, weekly, all stock -/
theorem xm_worth (hv : rm M A) (hok : hs_ok A) : f_X12_worth M = some (nI (sp_sm (A 6 0) (fun t => A 3 t * sp_pr (A 0 t) (A 1 t) / sp_pk (A 0 t)))) := by
  have h7 := hok.1
  unfold f_X12_worth
  refine mt_lz2 (P := fun r => r = some (nI (sp_sm (A 6 0) (fun t => A 3 t * sp_pr (A 0 t) (A 1 t) / sp_pk (A 0 t))))) (fun i x y => x = nI (sp_sm i (fun t => A 3 t * sp_pr (A 0 t) (A 1 t) / sp_pk (A 0 t))) ∧ y = nI i) (A 6 0) (by omega) ?_ ?_ ⟨rfl, rfl⟩
  · rintro i hi x y ⟨rfl, rfl⟩ k
    left
    have hin : vp_in (nI i) 7 := vp_in_nI (by omega) (by omega)
    have hcl : (nI i).toNatClampNeg = i := nI_clamp (by omega)
    obtain ⟨-, -, -, a4, -⟩ := hv.2 i hi (by omega)
    obtain ⟨b1, b2, b3, b4⟩ := hok.2 i hi
    have hp := (sp_pr_le (A 0 i) (by omega) (A 1 i) (by omega)).1
    have hq := sp_pk_le (A 0 i) (by omega)
    have hmul : A 3 i * sp_pr (A 0 i) (A 1 i) ≤ 99 * 55 := Nat.mul_le_mul b4 hp
    obtain ⟨r1, r2, -⟩ := xm_row hv hok hi
    refine ⟨_, _, ⟨rfl, rfl⟩, ?_⟩
    rw [hv.1.1, if_neg (nI_ge hi (by omega))]
    simp only [mt_ci_t hin, r1, r2, mt_b1E, mt_ck_t (nI_ne0 (show 0 < sp_pk (A 0 i) by omega) (by omega)), mt_ltE, hcl, a4, pk_mul, pk_div (show A 3 i * sp_pr (A 0 i) (A 1 i) < 2 ^ 31 by omega) (show 0 < sp_pk (A 0 i) by omega) (by omega), nI_add, nI_1, sp_sm]
  · rintro x y ⟨rfl, rfl⟩ k
    rw [hv.1.1, if_pos (nI_le (Nat.le_refl _) (by omega))]
theorem xm_week (hv : rm M A) (hok : hs_ok A) : f_X12_weekly M = some (nI (sp_sm (A 6 0) (fun t => (A 2 t * 7 + sp_pk (A 0 t) - 1) / sp_pk (A 0 t) * sp_pr (A 0 t) (A 1 t)))) := by
  have h7 := hok.1
  unfold f_X12_weekly
  refine mt_lz2 (P := fun r => r = some (nI (sp_sm (A 6 0) (fun t => (A 2 t * 7 + sp_pk (A 0 t) - 1) / sp_pk (A 0 t) * sp_pr (A 0 t) (A 1 t))))) (fun i x y => x = nI (sp_sm i (fun t => (A 2 t * 7 + sp_pk (A 0 t) - 1) / sp_pk (A 0 t) * sp_pr (A 0 t) (A 1 t))) ∧ y = nI i) (A 6 0) (by omega) ?_ ?_ ⟨rfl, rfl⟩
  · rintro i hi x y ⟨rfl, rfl⟩ k
    left
    have hin : vp_in (nI i) 7 := vp_in_nI (by omega) (by omega)
    have hcl : (nI i).toNatClampNeg = i := nI_clamp (by omega)
    obtain ⟨-, -, a3, -⟩ := hv.2 i hi (by omega)
    obtain ⟨b1, b2, b3, b4⟩ := hok.2 i hi
    have hq := sp_pk_le (A 0 i) (by omega)
    obtain ⟨r1, r2, -⟩ := xm_row hv hok hi
    have e1 : nI (A 2 i * 7 + sp_pk (A 0 i)) - 1 = nI (A 2 i * 7 + sp_pk (A 0 i) - 1) := pk_sub (b := 1) (by omega)
    refine ⟨_, _, ⟨rfl, rfl⟩, ?_⟩
    rw [hv.1.1, if_neg (nI_ge hi (by omega))]
    simp only [mt_ci_t hin, r1, r2, mt_b1E, mt_ck_t (nI_ne0 (show 0 < sp_pk (A 0 i) by omega) (by omega)), mt_ltE, hcl, a3, mi_7, pk_mul, nI_add, Nat.mul_comm 7, e1, pk_div (show A 2 i * 7 + sp_pk (A 0 i) - 1 < 2 ^ 31 by omega) (show 0 < sp_pk (A 0 i) by omega) (by omega), nI_1, sp_sm]
  · rintro x y ⟨rfl, rfl⟩ k
    rw [hv.1.1, if_pos (nI_le (Nat.le_refl _) (by omega))]
/-- harm -/
theorem kd_hm2 : ∀ k, k < 6 → ∀ p, p < 56 → (if nI k = (0 : Int32) then some (nI p) else if nI k = (1 : Int32) then some (((2 : Int32) * nI p)) else if nI k = (2 : Int32) then some ((0 : Int32)) else if nI k = (3 : Int32) then some ((nI p / (2 : Int32))) else if nI k = (4 : Int32) then some (((2 : Int32) * nI p)) else if nI k = (5 : Int32) then some ((1 : Int32)) else some (((2 : Int32) * nI p))) = some (nI (sp_hm k p)) := by decide +kernel
theorem xm_harm (hv : rm M A) (hok : hs_ok A) (ht : t < A 6 0) {g : Nat} (hg : g ≤ 2) : f_X12_harmOf (nI t) (nI g) M = some (nI (sp_hr A t g)) := by
  have h7 := hok.1
  have hin : vp_in (nI t) 7 := vp_in_nI (by omega) (by omega)
  have hcl : (nI t).toNatClampNeg = t := nI_clamp (by omega)
  obtain ⟨r1, r2, r3⟩ := xm_row hv hok ht
  obtain ⟨b1, b2, b3, b4⟩ := hok.2 t ht
  obtain ⟨a1, a2, a3, -⟩ := hv.2 t ht (by omega)
  have hp := (sp_pr_le (A 0 t) (by omega) (A 1 t) (by omega)).1
  have g0 : sp_hr A t 0 = 3 * A 2 t := rfl
  have g2 : sp_hr A t 2 = sp_hm (A 0 t) (sp_pr (A 0 t) (A 1 t)) := rfl
  rcases (show g = 0 ∨ g = 1 ∨ g = 2 by omega) with rfl | rfl | rfl
  · simp only [f_X12_harmOf]
    rw [if_neg (show ¬ (2 : Int32) ≤ nI 0 by decide), if_pos (show nI 0 = 0 from rfl), mt_ci_t hin, hcl, a3, mi_3, pk_mul, g0]
  · rfl
  · simp only [f_X12_harmOf]
    rw [if_pos (show (2 : Int32) ≤ nI 2 by decide), mt_ci_t hin, mt_ltE, hcl, a1, r1]
    simp only [mt_b1E]
    rw [g2]
    exact kd_hm2 (A 0 t) (by omega) (sp_pr (A 0 t) (A 1 t)) (by omega)
end XH

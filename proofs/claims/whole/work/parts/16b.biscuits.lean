/-! BISCUITS -/
def bi_t (rr : Nat → Nat) (v i : Nat) : Nat := sp_sm i (fun k => if rr k = v then 1 else 0)
def bi_u (rr : Nat → Nat) (n i : Nat) : Nat := sp_sm i (fun v => if 0 < bi_t rr v n then 1 else 0)
def bi_f (rr : Nat → Nat) (n : Nat) : Nat → Nat × Option Nat
  | 0 => (0, none)
  | v + 1 => if (bi_f rr n v).1 < bi_t rr v n then (bi_t rr v n, some v) else bi_f rr n v
def bi_k (A : hs_A) (rr : Nat → Nat) (i : Nat) : Bool := decide (rr i < A 6 0)
theorem bi_t_le (rr : Nat → Nat) (v i : Nat) : bi_t rr v i ≤ i := by
  have h := sp_sm_le (n := i) (b := 1) (f := fun k => if rr k = v then 1 else 0) (fun x _ => by show (if rr x = v then 1 else 0) ≤ 1; split <;> omega)
  unfold bi_t
  omega
theorem bi_f_le (rr : Nat → Nat) (n v : Nat) : (bi_f rr n v).1 ≤ n ∧ ((bi_f rr n v).2 = none → (bi_f rr n v).1 = 0) ∧ ∀ j, (bi_f rr n v).2 = some j → j < v ∧ (bi_f rr n v).1 = bi_t rr j n := by
  induction v with
  | zero => exact ⟨Nat.zero_le _, fun _ => rfl, fun j h => by cases h⟩
  | succ v ih =>
    simp only [bi_f]
    by_cases q : (bi_f rr n v).1 < bi_t rr v n
    · rw [if_pos q]
      exact ⟨bi_t_le rr v n, (fun h => by cases h), fun j h => by have := Option.some.inj h; subst this; exact ⟨by omega, rfl⟩⟩
    · rw [if_neg q]
      exact ⟨ih.1, ih.2.1, fun j h => ⟨by have := (ih.2.2 j h).1; omega, (ih.2.2 j h).2⟩⟩
theorem mt_b2_eta {α β : Type} (o : Option (α × β)) : mt_b2 o (fun a b => some (a, b)) = o := by
  cases o with
  | none => rfl
  | some p => rfl
section XB
variable {M : mt_M} {A : hs_A} {t : Nat} {rr : Nat → Nat} {n : Nat}
def sp_bi (rr : Nat → Nat) (n w : Nat) : Int32 := if w = 0 then nI (bi_u rr n 7) else sp_ov (bi_f rr n 7).2
theorem xf_times (hn : n ≤ 12) (h8 : M 0 8 = nI n) (hr : ∀ k, k < n → M 1 k = nI (rr k)) (hrb : ∀ k, k < n → rr k ≤ 99) {v : Nat} (hv : v < 2 ^ 31) : f_X11_timesInRow (nI v) M = some (nI (bi_t rr v n)) := by
  unfold f_X11_timesInRow
  rw [h8]
  refine mt_lz2 (P := fun r => r = some (nI (bi_t rr v n))) (fun i x y => x = nI (bi_t rr v i) ∧ y = nI i) n (by omega) ?_ ?_ ⟨rfl, rfl⟩
  · rintro i hi x y ⟨rfl, rfl⟩ k
    left
    have i1 : vp_in (nI i) 12 := vp_in_nI (by omega) (by omega)
    have c1 : (nI i).toNatClampNeg = i := nI_clamp (by omega)
    have hb := hrb i hi
    have es : bi_t rr v (i + 1) = bi_t rr v i + (if rr i = v then 1 else 0) := rfl
    refine ⟨_, _, ⟨rfl, rfl⟩, ?_⟩
    rw [if_neg (nI_ge hi (by omega))]
    simp only [mt_ltE, mt_ci_t i1, c1, hr i hi, nI_1, es]
    by_cases q : rr i = v
    · rw [if_pos (by rw [q]), if_pos q]
    · rw [if_neg (fun u => q ((nI_eq (by omega) hv).mp u)), if_neg q, mi_0, nI_add]
  · rintro x y ⟨rfl, rfl⟩ k
    rw [if_pos (nI_le (Nat.le_refl _) (by omega))]
theorem xf_biscuits (hv : cv 13 M A) (h7 : A 6 0 ≤ 7) (hn : n ≤ 12) (h8 : M 0 8 = nI n) (hr : ∀ k, k < n → M 1 k = nI (rr k)) (hrb : ∀ k, k < n → rr k ≤ 99) {w : Nat} (hw : w ≤ 1) : f_X11_biscuits (nI w) M = if sp_av (bi_k A rr) n = true then some (sp_bi rr n w, M) else f_X11_refuse (-3) M := by
  have e2 : f_X11_isOneOf (nI w) 1 = some 1 := by rcases (show w = 0 ∨ w = 1 by omega) with rfl | rfl <;> rfl
  simp only [f_X11_biscuits, e2, mt_b1E, mt_10, if_false, h8, mt_b2_eta]
  refine mt_lz1 (P := fun r => r = if sp_av (bi_k A rr) n = true then some (sp_bi rr n w, M) else f_X11_refuse (-3) M) (fun i x => x = nI i ∧ sp_av (bi_k A rr) i = true) n (by omega) ?_ ?_ ⟨rfl, rfl⟩
  · rintro i hi x ⟨rfl, ha⟩ k
    have i1 : vp_in (nI i) 12 := vp_in_nI (by omega) (by omega)
    have c1 : (nI i).toNatClampNeg = i := nI_clamp (by omega)
    have hb := hrb i hi
    rw [if_neg (nI_ge hi (by omega)), mt_ci_t i1, c1, hr i hi, xc_has hv.1.1 (by omega) (by omega), mt_b1E]
    by_cases q : rr i < A 6 0
    · left
      rw [if_pos q, if_neg (by decide), mt_ltE, nI_1]
      exact ⟨_, ⟨rfl, by simp only [sp_av]; rw [ha]; unfold bi_k; simpa using q⟩, rfl⟩
    · right
      rw [if_neg q, if_pos rfl, if_neg]
      intro z
      have h := sp_av_t.mp z i hi
      unfold bi_k at h
      exact q (by simpa using h)
  · rintro x ⟨rfl, ha⟩ k
    rw [if_pos (nI_le (Nat.le_refl _) (by omega)), ha, if_pos rfl]
    refine mt_lz4 (P := fun r => r = some (sp_bi rr n w, M)) (fun i x y z u => x = nI (bi_u rr n i) ∧ y = nI (bi_f rr n i).1 ∧ z = sp_ov (bi_f rr n i).2 ∧ u = nI i) 7 (by decide) ?_ ?_ ⟨rfl, rfl, rfl, rfl⟩
    · rintro i hi x y z u ⟨rfl, rfl, rfl, rfl⟩ k2
      left
      have ht := bi_t_le rr i n
      have hf := (bi_f_le rr n i).1
      have es : bi_u rr n (i + 1) = bi_u rr n i + (if 0 < bi_t rr i n then 1 else 0) := rfl
      have ef : bi_f rr n (i + 1) = if (bi_f rr n i).1 < bi_t rr i n then (bi_t rr i n, some i) else bi_f rr n i := rfl
      have e0 : (if nI (bi_t rr i n) ≤ 0 then nI (bi_u rr n i) + 0 else nI (bi_u rr n i + 1)) = nI (bi_u rr n (i + 1)) := by
        rw [es]
        by_cases q : 0 < bi_t rr i n
        · rw [if_neg (nI_nle q (by omega)), if_pos q]
        · rw [if_pos (show nI (bi_t rr i n) ≤ 0 by rw [show bi_t rr i n = 0 by omega]; decide), if_neg q, mi_0, nI_add]
      refine ⟨_, _, _, _, ⟨rfl, rfl, rfl, rfl⟩, ?_⟩
      rw [mi_7, if_neg (nI_ge hi (by omega)), xf_times hn h8 hr hrb (show i < 2 ^ 31 by omega), mt_b1E, ← e0, ef]
      simp only [mt_ltE, nI_1]
      by_cases q2 : nI (bi_t rr i n) ≤ 0
      · rw [if_pos q2, if_pos q2]
        by_cases q : (bi_f rr n i).1 < bi_t rr i n
        · rw [if_neg (nI_ge q (by omega)), if_pos q]; rfl
        · rw [if_pos (nI_le (show bi_t rr i n ≤ (bi_f rr n i).1 by omega) (by omega)), if_neg q]
      · rw [if_neg q2, if_neg q2]
        by_cases q : (bi_f rr n i).1 < bi_t rr i n
        · rw [if_neg (nI_ge q (by omega)), if_pos q]; rfl
        · rw [if_pos (nI_le (show bi_t rr i n ≤ (bi_f rr n i).1 by omega) (by omega)), if_neg q]
    · rintro x y z u ⟨rfl, rfl, rfl, rfl⟩ k2
      rw [mi_7, if_pos (nI_le (Nat.le_refl _) (by omega))]
      rcases (show w = 0 ∨ w = 1 by omega) with rfl | rfl
      · rfl
      · rfl
/-- the reference: its counts lie at 163 -/
theorem xm_biscuits (hv : rm M A) (h7 : A 6 0 ≤ 7) (hn : n ≤ 12) (h8 : M 147 27 = nI n) (hr : ∀ k, k < n → M 162 k = nI (rr k)) (hrb : ∀ k, k < n → rr k ≤ 99) {w : Nat} (hw : w ≤ 1) : ∃ M', f_X12_biscuits (nI w) M = (if sp_av (bi_k A rr) n = true then some (sp_bi rr n w, M') else f_X12_no (-3) M') ∧ ∀ id, id ≠ 163 → M' id = M id := by
  have e2 : f_X12_isIn (nI w) 0 1 = some 1 := by rcases (show w = 0 ∨ w = 1 by omega) with rfl | rfl <;> rfl
  simp only [f_X12_biscuits, e2, mt_b1E, mt_ltE, mt_10, if_false, mt_b2_eta]
  refine mt_lz2 (P := fun r => ∃ M', r = (if sp_av (bi_k A rr) n = true then some (sp_bi rr n w, M') else f_X12_no (-3) M') ∧ ∀ id, id ≠ 163 → M' id = M id) (fun i x m => x = nI i ∧ (∀ v, v < i → m 163 v = nI 0) ∧ ∀ id, id ≠ 163 → m id = M id) 7 (by decide) ?_ ?_ ⟨rfl, fun v hv => by omega, fun _ _ => rfl⟩
  · rintro i hi x m ⟨rfl, hm, hf⟩ k
    left
    have i1 : vp_in (nI i) 7 := vp_in_nI (by omega) (by omega)
    have c1 : (nI i).toNatClampNeg = i := nI_clamp (by omega)
    refine ⟨nI (i + 1), mt_wr m 163 i 0, ⟨rfl, fun v hv2 => ?_, fun id hid => ?_⟩, ?_⟩
    · by_cases q : v = i
      · subst q; exact mt_wr_s _ _ _ _
      · exact (mt_wr_n q).trans (hm v (by omega))
    · exact (mt_wr_ne hid).trans (hf id hid)
    · rw [mi_7, if_neg (nI_ge hi (by omega)), mt_ci_t i1, c1, nI_1]
  · rintro x m ⟨rfl, hm, hf⟩ k
    rw [mi_7, if_pos (nI_le (Nat.le_refl _) (by omega))]
    refine mt_lz3 (P := fun r => ∃ M', r = (if sp_av (bi_k A rr) n = true then some (sp_bi rr n w, M') else f_X12_no (-3) M') ∧ ∀ id, id ≠ 163 → M' id = M id) (fun i x y m => y = nI i ∧ ((x = 0 ∧ sp_av (bi_k A rr) i = true ∧ ∀ v, v < 7 → m 163 v = nI (bi_t rr v i)) ∨ (x = -3 ∧ ¬ sp_av (bi_k A rr) n = true)) ∧ ∀ id, id ≠ 163 → m id = M id) n (by omega) ?_ ?_ ⟨rfl, Or.inl ⟨rfl, rfl, hm⟩, hf⟩
    · rintro i hi x y m ⟨rfl, hx, hf⟩ k2
      have e8 : m 147 27 = nI n := by rw [hf 147 (by decide)]; exact h8
      have er : m 162 i = nI (rr i) := by rw [hf 162 (by decide)]; exact hr i hi
      have i1 : vp_in (nI i) 12 := vp_in_nI (by omega) (by omega)
      have c1 : (nI i).toNatClampNeg = i := nI_clamp (by omega)
      have hb := hrb i hi
      have hrm : rm m A := by
        refine rm_eq (fun j _ => ?_) hv
        unfold rf
        rw [hf 149 (by decide), hf 150 (by decide), hf 151 (by decide), hf 152 (by decide), hf 153 (by decide), hf 154 (by decide), hf 155 (by decide), hf 147 (by decide)]
      rw [e8, if_neg (nI_ge hi (by omega))]
      rcases hx with ⟨rfl, ha, hc⟩ | ⟨rfl, hbad⟩
      · left
        rw [if_pos rfl, mt_ci_t i1, c1, er, xm_has2 hrm h7 (by omega), mt_b1E]
        by_cases q : rr i < A 6 0
        · have i2 : vp_in (nI (rr i)) 7 := vp_in_nI (by omega) (by omega)
          have c2 : (nI (rr i)).toNatClampNeg = rr i := nI_clamp (by omega)
          rw [if_pos q, if_neg (by decide), if_pos trivial, mt_ci_t i1, mt_ci_t i2, mt_ci_t i2, c2, nI_1, hc (rr i) (by omega), nI_1]
          refine ⟨_, _, _, ⟨rfl, Or.inl ⟨rfl, ?_, fun v hv2 => ?_⟩, fun id hid => ?_⟩, rfl⟩
          · simp only [sp_av]; rw [ha]; unfold bi_k; simpa using q
          · have es : bi_t rr v (i + 1) = bi_t rr v i + (if rr i = v then 1 else 0) := rfl
            rw [es]
            by_cases z : v = rr i
            · subst z; rw [mt_wr_s, if_pos rfl]
            · rw [mt_wr_n z, hc v hv2, if_neg (fun u => z u.symm)]; rfl
          · rw [mt_wr_ne hid]; exact hf id hid
        · rw [if_neg q, if_pos rfl, if_neg (by decide), nI_1]
          refine ⟨_, _, _, ⟨rfl, Or.inr ⟨rfl, fun z => ?_⟩, hf⟩, rfl⟩
          have h := sp_av_t.mp z i hi
          unfold bi_k at h
          exact q (by simpa using h)
      · right
        rw [if_neg (by decide), if_neg (by decide)]
        exact ⟨m, by rw [if_neg hbad], hf⟩
    · rintro x y m ⟨rfl, hx, hf⟩ k2
      have e8 : m 147 27 = nI n := by rw [hf 147 (by decide)]; exact h8
      rw [e8, if_pos (nI_le (Nat.le_refl _) (by omega))]
      rcases hx with ⟨rfl, ha, hc⟩ | ⟨rfl, hbad⟩
      · rw [if_pos rfl]
        refine Exists.imp (p := fun (M' : mt_M) => _ = some (sp_bi rr n w, M') ∧ ∀ id, id ≠ 163 → M' id = M id) (fun M' h => ⟨h.1.trans (by rw [ha, if_pos rfl]), h.2⟩) ?_
        refine mt_lz3 (P := fun (r : Option (Int32 × mt_M)) => ∃ M' : mt_M, r = some (sp_bi rr n w, M') ∧ ∀ id, id ≠ 163 → M' id = M id) (fun i x y z => x = nI (bi_u rr n i) ∧ y = sp_ov (bi_f rr n i).2 ∧ z = nI i) 7 (by decide) ?_ ?_ ⟨rfl, rfl, rfl⟩
        · rintro i hi x y z ⟨rfl, rfl, rfl⟩ k3
          left
          have i1 : vp_in (nI i) 7 := vp_in_nI (by omega) (by omega)
          have c1 : (nI i).toNatClampNeg = i := nI_clamp (by omega)
          have ht := bi_t_le rr i n
          obtain ⟨hf1, hf2, hf3⟩ := bi_f_le rr n i
          have es : bi_u rr n (i + 1) = bi_u rr n i + (if 0 < bi_t rr i n then 1 else 0) := rfl
          rw [if_neg (nI_ge hi (by omega)), mt_ci_t i1, c1, hc i hi]
          simp only [nI_1, es, bi_f]
          have e0 : (if nI (bi_t rr i n) ≤ 0 then nI (bi_u rr n i) + 0 else nI (bi_u rr n i) + 1) = nI (bi_u rr n i + (if 0 < bi_t rr i n then 1 else 0)) := by
            by_cases q : 0 < bi_t rr i n
            · rw [if_neg (nI_nle q (by omega)), if_pos q, nI_1]
            · rw [if_pos (show nI (bi_t rr i n) ≤ 0 by rw [show bi_t rr i n = 0 by omega]; decide), if_neg q, mi_0, nI_add]
          have ebest : ∀ B : Int32 → Option (Int32 × mt_M), (if 0 ≤ sp_ov (bi_f rr n i).2 then mt_ci (sp_ov (bi_f rr n i).2) 7 (B (m 163 (sp_ov (bi_f rr n i).2).toNatClampNeg)) else B 0) = B (nI (bi_f rr n i).1) := by
            intro B
            cases h : (bi_f rr n i).2 with
            | none =>
              rw [if_neg (by decide), hf2 h]; rfl
            | some j =>
              obtain ⟨j1, j2⟩ := hf3 j h
              have ij : vp_in (nI j) 7 := vp_in_nI (by omega) (by omega)
              have cj : (nI j).toNatClampNeg = j := nI_clamp (by omega)
              have eo : sp_ov (some j) = nI j := rfl
              rw [eo, if_pos (nI_pos' (show j < 2 ^ 31 by omega)), mt_ci_t ij, cj, hc j (by omega), j2]
          have fin : ∀ u : Int32, mt_ci (nI i) 7 (if 0 ≤ sp_ov (bi_f rr n i).2 then mt_ci (sp_ov (bi_f rr n i).2) 7 (if nI (bi_t rr i n) ≤ m 163 (sp_ov (bi_f rr n i).2).toNatClampNeg then k3 u (sp_ov (bi_f rr n i).2) (nI (i + 1)) else k3 u (nI i) (nI (i + 1))) else if nI (bi_t rr i n) ≤ 0 then k3 u (sp_ov (bi_f rr n i).2) (nI (i + 1)) else k3 u (nI i) (nI (i + 1))) = k3 u (sp_ov (if (bi_f rr n i).1 < bi_t rr i n then (bi_t rr i n, some i) else bi_f rr n i).2) (nI (i + 1)) := by
            intro u
            rw [mt_ci_t i1]
            refine (ebest (fun b => if nI (bi_t rr i n) ≤ b then k3 u (sp_ov (bi_f rr n i).2) (nI (i + 1)) else k3 u (nI i) (nI (i + 1)))).trans ?_
            by_cases q : (bi_f rr n i).1 < bi_t rr i n
            · rw [if_pos q, if_neg (nI_ge q (by omega))]; rfl
            · rw [if_neg q, if_pos (nI_le (by omega) (by omega))]
          refine ⟨_, _, _, ⟨rfl, rfl, rfl⟩, ?_⟩
          rw [← e0]
          by_cases q : nI (bi_t rr i n) ≤ 0
          · rw [if_pos q, if_pos q, if_pos q]
            have h := fin (nI (bi_u rr n i) + 0)
            rw [if_pos q] at h
            exact h
          · rw [if_neg q, if_neg q, if_neg q]
            have h := fin (nI (bi_u rr n i) + 1)
            rw [if_neg q] at h
            simpa only [nI_1] using h
        · rintro x y z ⟨rfl, rfl, rfl⟩ k3
          rw [if_pos (nI_le (Nat.le_refl _) (by omega))]
          refine ⟨m, ?_, hf⟩
          rcases (show w = 0 ∨ w = 1 by omega) with rfl | rfl
          · rfl
          · rfl
      · rw [if_neg (by decide)]
        exact ⟨m, by rw [if_neg hbad], hf⟩
end XB

/-! WHAT CHANGES A HOUSE OF THE CLASS -/
/-- joined -/
def sp_jw (A : hs_A) : Nat := sp_mk (sp_wb A (A 6 3)) (A 6 0)
def hs_jn (A : hs_A) : hs_A := fun j x => if j = 4 ∨ j = 5 then max (A 4 x) (A 5 x) else if j = 6 ∧ (x = 7 ∨ x = 8) then sp_jw A else A j x
def sp_jc (A : hs_A) : Nat := sp_pc (A 6 7 ^^^ sp_jw A) + sp_pc (A 6 8 ^^^ sp_jw A)
theorem hs_jn_r (A : hs_A) {j : Nat} (h4 : j ≠ 4) (h5 : j ≠ 5) (h6 : j ≠ 6) : hs_jn A j = A j := by
  funext x; simp [hs_jn, h4, h5, h6]
theorem hs_jn_6 (A : hs_A) {x : Nat} (h7 : x ≠ 7) (h8 : x ≠ 8) : hs_jn A 6 x = A 6 x := by simp [hs_jn, h7, h8]
theorem hs_jn_m (A : hs_A) : hs_jn A 6 7 = sp_jw A ∧ hs_jn A 6 8 = sp_jw A := by simp [hs_jn]
theorem hs_jn_c (A : hs_A) (x : Nat) : hs_jn A 4 x = max (A 4 x) (A 5 x) ∧ hs_jn A 5 x = max (A 4 x) (A 5 x) := by simp [hs_jn]
theorem hs_ok_eq {A B : hs_A} (h : hs_ok A) (e0 : B 6 0 = A 6 0) (e : ∀ j, j < 4 → B j = A j) : hs_ok B := by
  refine ⟨by rw [e0]; exact h.1, fun t ht => ?_⟩
  rw [e0] at ht
  rw [e 0 (by decide), e 1 (by decide), e 2 (by decide), e 3 (by decide)]
  exact h.2 t ht
theorem hs_wf_jn {A : hs_A} (h : hs_wf A) : hs_wf (hs_jn A) := by
  obtain ⟨hok, ⟨a1, a2, a3⟩, ⟨b1, b2⟩, c, d4, d5, d6⟩ := h
  have e0 : hs_jn A 6 0 = A 6 0 := hs_jn_6 A (by decide) (by decide)
  refine ⟨hs_ok_eq hok e0 (fun j hj => hs_jn_r A (by omega) (by omega) (by omega)), ⟨?_, ?_, ?_⟩, ⟨?_, ?_⟩, fun t ht => ?_, ?_, ?_, ?_⟩
  · rw [hs_jn_6 A (by decide) (by decide)]; exact a1
  · rw [hs_jn_6 A (by decide) (by decide)]; exact a2
  · rw [hs_jn_6 A (by decide) (by decide)]; exact a3
  · rw [e0, (hs_jn_m A).1]; exact sp_mk_lt _ _
  · rw [e0, (hs_jn_m A).2]; exact sp_mk_lt _ _
  · obtain ⟨q1, q2, q3⟩ := c t ht
    rw [e0, (hs_jn_c A t).1, (hs_jn_c A t).2]
    refine ⟨by omega, by omega, fun z => ?_⟩
    have := q3 z
    omega
  · rw [hs_jn_6 A (by decide) (by decide), hs_jn_6 A (by decide) (by decide)]; exact d4
  · rw [hs_jn_6 A (by decide) (by decide), hs_jn_6 A (by decide) (by decide)]; exact d5
  · rw [hs_jn_6 A (by decide) (by decide), hs_jn_6 A (by decide) (by decide)]; exact d6
/-- a cupboard is told by the rows 0 to 3 and five figures -/
theorem cv_eq {c : Nat} {M : mt_M} {A B : hs_A} (h : cv c M A) (e : ∀ j, j < 4 → B j = A j) (e0 : B 6 0 = A 6 0) (e4 : B 6 4 = A 6 4) (e5 : B 6 5 = A 6 5) (e6 : B 6 6 = A 6 6) : cv c M B := by
  obtain ⟨⟨a1, a2, a3, a4⟩, hr⟩ := h
  refine ⟨⟨by rw [e0]; exact a1, by rw [e4]; exact a2, by rw [e5]; exact a3, by rw [e6]; exact a4⟩, fun t ht => ?_⟩
  rw [e0] at ht
  rw [e 0 (by decide), e 1 (by decide), e 2 (by decide), e 3 (by decide)]
  exact hr t ht
/-- the latest line -/
def sp_cK (A : hs_A) (l t : Nat) : Nat := if l = 0 then A 4 t else A 5 t
def sp_ll (A : hs_A) : Nat → Nat × Option Nat
  | 0 => (0, none)
  | m + 1 => if (sp_ll A m).1 < sp_cK A (m % 2) (m / 2) then (sp_cK A (m % 2) (m / 2), some (10 * (m / 2) + m % 2)) else sp_ll A m
/-- a line is marked -/
def hs_mk (A : hs_A) (l t : Nat) (b : Bool) : hs_A := hs_up (hs_up (hs_up A 6 1 (A 6 1 + 1)) (4 + l) t (A 6 1 + 1)) 6 (7 + l) (if b = true then A 6 (7 + l) ||| 2 ^ t else sp_an (A 6 (7 + l)) (2 ^ t))
theorem hs_mk_r (A : hs_A) (l t : Nat) (b : Bool) {j : Nat} (hj : j < 4) : hs_mk A l t b j = A j := by
  unfold hs_mk; rw [hs_up_r _ (by omega), hs_up_r _ (by omega), hs_up_r _ (by omega)]
theorem hs_mk_6 (A : hs_A) {l t : Nat} (hl : l < 2) (b : Bool) {x : Nat} (h1 : x ≠ 1) (h7 : x ≠ 7) (h8 : x ≠ 8) : hs_mk A l t b 6 x = A 6 x := by
  unfold hs_mk; rw [hs_up_n _ (by omega), hs_up_r _ (by omega), hs_up_n _ h1]
theorem hs_mk_1 (A : hs_A) {l t : Nat} (hl : l < 2) (b : Bool) : hs_mk A l t b 6 1 = A 6 1 + 1 := by
  unfold hs_mk; rw [hs_up_n _ (by omega), hs_up_r _ (by omega), hs_up_s]
theorem hs_mk_m (A : hs_A) {l t : Nat} (hl : l < 2) (b : Bool) {v : Nat} (hv : v < 2) : hs_mk A l t b 6 (7 + v) = if v = l then (if b = true then A 6 (7 + l) ||| 2 ^ t else sp_an (A 6 (7 + l)) (2 ^ t)) else A 6 (7 + v) := by
  unfold hs_mk
  by_cases h : v = l
  · subst h; rw [hs_up_s, if_pos rfl]
  · rw [hs_up_n _ (by omega), hs_up_r _ (by omega), hs_up_n _ (by omega), if_neg h]
theorem hs_mk_c (A : hs_A) {l t : Nat} (hl : l < 2) (b : Bool) {v : Nat} (hv : v < 2) (x : Nat) : hs_mk A l t b (4 + v) x = if v = l ∧ x = t then A 6 1 + 1 else A (4 + v) x := by
  unfold hs_mk
  rw [hs_up_r _ (by omega)]
  by_cases h : v = l
  · subst h
    by_cases q : x = t
    · subst q; rw [hs_up_s, if_pos ⟨rfl, rfl⟩]
    · rw [hs_up_n _ q, hs_up_r _ (by omega), if_neg (fun w => q w.2)]
  · rw [hs_up_r _ (by omega), hs_up_r _ (by omega), if_neg (fun w => h w.1)]
theorem sp_mkb_lt {w t n : Nat} (hw : w < 2 ^ n) (ht : t < n) (b : Bool) : (if b = true then w ||| 2 ^ t else sp_an w (2 ^ t)) < 2 ^ n := by
  have h2 : 2 ^ t < 2 ^ n := Nat.pow_lt_pow_right (by decide) ht
  cases b with
  | true => exact sp_or_lt hw h2
  | false => exact sp_an_lt hw
theorem hs_wf_mk {A : hs_A} (h : hs_wf A) {l t : Nat} (hl : l < 2) (ht : t < A 6 0) (hn : A 6 1 < 999) (b : Bool) : hs_wf (hs_mk A l t b) ∧ hs_mk A l t b 6 4 + 55 ≤ 55 * hs_mk A l t b 6 1 := by
  obtain ⟨hok, ⟨a1, a2, a3⟩, ⟨b1, b2⟩, c, d4, d5, d6⟩ := h
  have e0 : hs_mk A l t b 6 0 = A 6 0 := hs_mk_6 A hl b (by decide) (by decide) (by decide)
  have e1 := hs_mk_1 A (t := t) hl b
  have e2 : hs_mk A l t b 6 2 = A 6 2 := hs_mk_6 A hl b (by decide) (by decide) (by decide)
  have e3 : hs_mk A l t b 6 3 = A 6 3 := hs_mk_6 A hl b (by decide) (by decide) (by decide)
  have e4 : hs_mk A l t b 6 4 = A 6 4 := hs_mk_6 A hl b (by decide) (by decide) (by decide)
  have e5 : hs_mk A l t b 6 5 = A 6 5 := hs_mk_6 A hl b (by decide) (by decide) (by decide)
  have e6 : hs_mk A l t b 6 6 = A 6 6 := hs_mk_6 A hl b (by decide) (by decide) (by decide)
  refine ⟨⟨hs_ok_eq hok e0 (fun j hj => hs_mk_r A l t b hj), ⟨by omega, by omega, by omega⟩, ⟨?_, ?_⟩, fun x hx => ?_, by omega, by omega, by omega⟩, by omega⟩
  · have e := hs_mk_m A (t := t) hl b (v := 0) (by decide)
    rw [e0, show (7 : Nat) = 7 + 0 from rfl, e]
    split
    · rename_i z; subst z; exact sp_mkb_lt b1 ht b
    · exact b1
  · have e := hs_mk_m A (t := t) hl b (v := 1) (by decide)
    rw [e0, show (8 : Nat) = 7 + 1 from rfl, e]
    split
    · rename_i z; subst z; exact sp_mkb_lt b2 ht b
    · exact b2
  · obtain ⟨q1, q2, q3⟩ := c x hx
    have f4 := hs_mk_c A (t := t) hl b (v := 0) (by decide) x
    have f5 := hs_mk_c A (t := t) hl b (v := 1) (by decide) x
    rw [e0, show (4 : Nat) = 4 + 0 from rfl, f4, show (5 : Nat) = 4 + 1 from rfl, f5]
    refine ⟨?_, ?_, fun z => ⟨?_, ?_⟩⟩
    · split
      · omega
      · exact q1
    · split
      · omega
      · exact q2
    · rw [if_neg (by omega)]; exact (q3 z).1
    · rw [if_neg (by omega)]; exact (q3 z).2
theorem hs_wf_buy {A : hs_A} (h : hs_wf A) {t : Nat} (ht : t < A 6 0) (hp : A 6 4 + 55 ≤ 55 * A 6 1) : hs_wf (hs_buy A t 1) := by
  obtain ⟨hok, ⟨a1, a2, a3⟩, ⟨b1, b2⟩, c, d4, d5, d6⟩ := h
  have e : ∀ j, j ≠ 4 → hs_buy A t 1 6 j = A 6 j := fun j hj => hs_buy_n A t 1 hj
  have f4 := (sp_pr_le (A 0 t) (by have := (hok.2 t ht).1; omega) (A 1 t) (by have := (hok.2 t ht).2.1; omega)).1
  refine ⟨hs_ok_buy hok t 1, ⟨by rw [e 1 (by decide)]; exact a1, by rw [e 2 (by decide)]; exact a2, by rw [e 3 (by decide)]; exact a3⟩, ⟨by rw [e 7 (by decide), e 0 (by decide)]; exact b1, by rw [e 8 (by decide), e 0 (by decide)]; exact b2⟩, fun x hx => ?_, ?_, by rw [e 5 (by decide), e 2 (by decide)]; exact d5, by rw [e 6 (by decide), e 2 (by decide)]; exact d6⟩
  · rw [hs_buy_r _ _ _ (by decide) (by decide), hs_buy_r _ _ _ (by decide) (by decide), e 0 (by decide)]; exact c x hx
  · rw [hs_buy_4, e 1 (by decide)]; omega
theorem hs_day_6 {A : hs_A} (h : hs_ok A) : hs_day A 6 6 ≤ A 6 6 + 693 := by
  unfold hs_day
  rw [hs_up_n _ (by decide), hs_dP_66]
  have h1 := sp_sm_le (n := A 6 0) (b := 99) (f := fun t => sp_lo (A 0 t) (A 1 t) (A 3 t - A 2 t)) (fun t ht => by
    have h3 := sp_lo_le (A 0 t) (A 1 t) (A 3 t - A 2 t)
    have h4 := (h.2 t ht).2.2.2
    show sp_lo (A 0 t) (A 1 t) (A 3 t - A 2 t) ≤ 99
    omega)
  have h2 := h.1
  omega
theorem hs_wf_day {A : hs_A} (h : hs_wf A) (hd : A 6 2 < 999) : hs_wf (hs_day A) := by
  obtain ⟨hok, ⟨a1, a2, a3⟩, ⟨b1, b2⟩, c, d4, d5, d6⟩ := h
  have e : ∀ j, j ≠ 2 → j ≠ 5 → j ≠ 6 → hs_day A 6 j = A 6 j := fun j h2 h5 h6 => hs_day_n A h2 h5 h6
  have f2 := hs_day_2 A
  have f5 := (hs_day_5 hok).2
  have f6 := hs_day_6 hok
  refine ⟨hs_ok_day hok, ⟨by rw [e 1 (by decide) (by decide) (by decide)]; exact a1, by omega, by rw [e 3 (by decide) (by decide) (by decide)]; exact a3⟩, ⟨by rw [e 7 (by decide) (by decide) (by decide), e 0 (by decide) (by decide) (by decide)]; exact b1, by rw [e 8 (by decide) (by decide) (by decide), e 0 (by decide) (by decide) (by decide)]; exact b2⟩, fun x hx => ?_, by rw [e 4 (by decide) (by decide) (by decide), e 1 (by decide) (by decide) (by decide)]; exact d4, by omega, by omega⟩
  rw [hs_day_r _ (by decide) (by decide), hs_day_r _ (by decide) (by decide), e 0 (by decide) (by decide) (by decide)]
  exact c x hx
theorem hs_wf_days {A : hs_A} (h : hs_wf A) : ∀ n, A 6 2 + n ≤ 999 → hs_wf (hs_days A n)
  | 0, _ => h
  | n + 1, hd => hs_wf_day (hs_wf_days h n (by omega)) (by rw [hs_days_d]; omega)
/-- a new thing -/
def hs_ad (A : hs_A) (k f u : Nat) : hs_A := hs_up (hs_up (hs_up (hs_up (hs_up A 0 (A 6 0) k) 1 (A 6 0) f) 2 (A 6 0) u) 3 (A 6 0) 0) 6 0 (A 6 0 + 1)
theorem hs_ad_6 (A : hs_A) (k f u : Nat) {x : Nat} (h : x ≠ 0) : hs_ad A k f u 6 x = A 6 x := by simp [hs_ad, hs_up, h]
theorem hs_ad_0 (A : hs_A) (k f u : Nat) : hs_ad A k f u 6 0 = A 6 0 + 1 := by simp [hs_ad, hs_up]
theorem hs_ad_c (A : hs_A) (k f u : Nat) : hs_ad A k f u 4 = A 4 ∧ hs_ad A k f u 5 = A 5 := by
  constructor <;> (funext x; simp [hs_ad, hs_up])
theorem hs_ad_n (A : hs_A) (k f u : Nat) : hs_ad A k f u 0 (A 6 0) = k ∧ hs_ad A k f u 1 (A 6 0) = f ∧ hs_ad A k f u 2 (A 6 0) = u ∧ hs_ad A k f u 3 (A 6 0) = 0 := by simp [hs_ad, hs_up]
theorem hs_ad_t (A : hs_A) (k f u : Nat) {j x : Nat} (hj : j < 4) (hx : x ≠ A 6 0) : hs_ad A k f u j x = A j x := by
  rcases (show j = 0 ∨ j = 1 ∨ j = 2 ∨ j = 3 by omega) with rfl | rfl | rfl | rfl <;> simp [hs_ad, hs_up, hx]
theorem hs_wf_ad {A : hs_A} (h : hs_wf A) (hn : A 6 0 < 7) {k f u : Nat} (hk : k ≤ 5) (hf : f ≤ 9) (hu : u ≤ 9) : hs_wf (hs_ad A k f u) := by
  obtain ⟨hok, ⟨a1, a2, a3⟩, ⟨b1, b2⟩, c, d4, d5, d6⟩ := h
  have e : ∀ x, x ≠ 0 → hs_ad A k f u 6 x = A 6 x := fun x hx => hs_ad_6 A k f u hx
  have e0 := hs_ad_0 A k f u
  have hp : 2 ^ A 6 0 ≤ 2 ^ (A 6 0 + 1) := Nat.pow_le_pow_right (by decide) (by omega)
  refine ⟨⟨by omega, fun t ht => ?_⟩, ⟨by rw [e 1 (by decide)]; exact a1, by rw [e 2 (by decide)]; exact a2, by rw [e 3 (by decide)]; exact a3⟩, ⟨by rw [e 7 (by decide), e0]; omega, by rw [e 8 (by decide), e0]; omega⟩, fun x hx => ?_, by rw [e 4 (by decide), e 1 (by decide)]; exact d4, by rw [e 5 (by decide), e 2 (by decide)]; exact d5, by rw [e 6 (by decide), e 2 (by decide)]; exact d6⟩
  · by_cases q : t = A 6 0
    · subst q
      obtain ⟨q1, q2, q3, q4⟩ := hs_ad_n A k f u
      rw [q1, q2, q3, q4]
      exact ⟨hk, hf, hu, by decide⟩
    · rw [hs_ad_t A k f u (by decide) q, hs_ad_t A k f u (by decide) q, hs_ad_t A k f u (by decide) q, hs_ad_t A k f u (by decide) q]
      exact hok.2 t (by omega)
  · rw [(hs_ad_c A k f u).1, (hs_ad_c A k f u).2]
    obtain ⟨q1, q2, q3⟩ := c x hx
    exact ⟨q1, q2, fun z => q3 (by omega)⟩
section HC2
variable {h : Nat} {M : mt_M} {A : hs_A} {t : Nat}
theorem hc_isLine (hh : hv h M A) (hwf : hs_wf A) {l : Nat} (hl : l < 2) (ht : t < A 6 0) : f_X4_isLine h (nI l) (nI t) M = some 1 := by
  have e : f_X11_isOneOf (nI l) 1 = some 1 := by rcases (show l = 0 ∨ l = 1 by omega) with rfl | rfl <;> rfl
  simp only [f_X4_isLine, e, mt_b1E, mt_10, if_false, xc_hasT hh.2.2 hwf.1.1 ht]
theorem hc_wanted (hh : hv h M A) {l : Nat} (hl : l < 2) : f_X4_wantedBy h (nI l) M = some (nI (A 6 (7 + l))) := by
  rcases (show l = 0 ∨ l = 1 by omega) with rfl | rfl
  · have e : f_X11_isOneOf (nI 0) 1 = some 1 := rfl
    simp only [f_X4_wantedBy, e, mt_b1E, mt_10, if_false, mt_ci_t (vp_in_nI (n := 0) (N := 2) (by omega) (by omega)), show (nI 0).toNatClampNeg = 0 from rfl, hh.1.2.2.2.1]
  · have e : f_X11_isOneOf (nI 1) 1 = some 1 := rfl
    simp only [f_X4_wantedBy, e, mt_b1E, mt_10, if_false, mt_ci_t (vp_in_nI (n := 1) (N := 2) (by omega) (by omega)), show (nI 1).toNatClampNeg = 1 from rfl, hh.1.2.2.2.2]
theorem hc_clock (hh : hv h M A) (hwf : hs_wf A) {l : Nat} (hl : l < 2) (ht : t < A 6 0) : f_X4_clockOf h (nI l) (nI t) M = some (nI (sp_cK A l t)) := by
  have h7 := hwf.1.1
  obtain ⟨c0, c1⟩ := hh.2.1 t (by omega)
  have hin : vp_in (nI (l * 7 + t)) 14 := vp_in_nI (by omega) (by omega)
  have hcl : (nI (l * 7 + t)).toNatClampNeg = l * 7 + t := nI_clamp (by omega)
  simp only [f_X4_clockOf, hc_isLine hh hwf hl ht, mt_b1E, mt_10, if_false, mi_7, pk_mul, nI_add, mt_ci_t hin, hcl]
  unfold sp_cK
  rcases (show l = 0 ∨ l = 1 by omega) with rfl | rfl
  · rw [if_pos rfl, ← c0, show 0 * 7 + t = t by omega]
  · rw [if_neg (by decide), ← c1, show 1 * 7 + t = 7 + t by omega]
theorem hc_latest (hh : hv h M A) (hwf : hs_wf A) : f_X4_latestLine h M = some (sp_ov (sp_ll A (2 * A 6 0)).2) := by
  have h7 := hwf.1.1
  have bll : ∀ m, m ≤ 2 * A 6 0 → (sp_ll A m).1 ≤ 999 := by
    intro m
    induction m with
    | zero => intro _; exact Nat.zero_le _
    | succ m ih =>
      intro hm
      simp only [sp_ll]
      split
      · obtain ⟨b0, b1, -⟩ := hwf.2.2.2.1 (m / 2) (by omega)
        show sp_cK A (m % 2) (m / 2) ≤ 999
        unfold sp_cK
        split
        · exact b0
        · exact b1
      · exact ih (by omega)
  unfold f_X4_latestLine
  refine mt_lz3 (P := fun r => r = some (sp_ov (sp_ll A (2 * A 6 0)).2)) (fun i x y z => x = nI (sp_ll A (2 * i)).1 ∧ y = sp_ov (sp_ll A (2 * i)).2 ∧ z = nI i) (A 6 0) (by omega) ?_ ?_ ⟨rfl, rfl, rfl⟩
  · rintro i hi x y z ⟨rfl, rfl, rfl⟩ k
    left
    rw [hh.2.2.1.1, if_neg (nI_ge hi (by omega))]
    refine mt_lz3 (P := fun o => ∃ c1 c2 c3, (c1 = nI (sp_ll A (2 * (i + 1))).1 ∧ c2 = sp_ov (sp_ll A (2 * (i + 1))).2 ∧ c3 = nI (i + 1)) ∧ o = k c1 c2 c3) (fun j x y z => x = nI (sp_ll A (2 * i + j)).1 ∧ y = sp_ov (sp_ll A (2 * i + j)).2 ∧ z = nI j) 2 (by decide) ?_ ?_ ⟨rfl, rfl, rfl⟩
    · rintro j hj x y z ⟨rfl, rfl, rfl⟩ k2
      left
      have e1 : (2 * i + j) % 2 = j := by omega
      have e2 : (2 * i + j) / 2 = i := by omega
      have hb := bll (2 * i + j) (by omega)
      obtain ⟨b0, b1, -⟩ := hwf.2.2.2.1 i (by omega)
      have hc : sp_cK A j i ≤ 999 := by unfold sp_cK; split; exact b0; exact b1
      rw [mi_2, if_neg (nI_ge hj (by omega)), hc_clock hh hwf hj hi]
      simp only [mt_b1E, mt_ltE, nI_1, mi_10, pk_mul, nI_add]
      have el : sp_ll A (2 * i + (j + 1)) = if (sp_ll A (2 * i + j)).1 < sp_cK A j i then (sp_cK A j i, some (10 * i + j)) else sp_ll A (2 * i + j) := by
        show sp_ll A (2 * i + j + 1) = _
        simp only [sp_ll]
        rw [e1, e2]
      rw [el]
      by_cases q : (sp_ll A (2 * i + j)).1 < sp_cK A j i
      · rw [if_neg (nI_ge q (by omega)), if_pos q]
        exact ⟨_, _, _, ⟨rfl, rfl, rfl⟩, rfl⟩
      · rw [if_pos (nI_le (by omega) (by omega)), if_neg q]
        exact ⟨_, _, _, ⟨rfl, rfl, rfl⟩, rfl⟩
    · rintro x y z ⟨rfl, rfl, rfl⟩ k2
      rw [mi_2, if_pos (nI_le (Nat.le_refl _) (by omega))]
      simp only [mt_ltE, nI_1]
      exact ⟨_, _, _, ⟨rfl, rfl, rfl⟩, rfl⟩
  · rintro x y z ⟨rfl, rfl, rfl⟩ k
    rw [hh.2.2.1.1, if_pos (nI_le (Nat.le_refl _) (by omega))]
theorem hc_join (hh : hv h M A) (hwf : hs_wf A) : ∃ M', f_X4_joinLists h M = some (nI (sp_jc A), M') ∧ hv h M' (hs_jn A) := by
  obtain ⟨⟨g1, g2, g3, g4, g5⟩, hc, hcv⟩ := hh
  have h7 := hwf.1.1
  obtain ⟨m7, m8⟩ := hwf.m
  have hw := sp_mk_lt (sp_wb A (A 6 3)) (A 6 0)
  have hw7 := sp_lt7 hw h7
  have x7 : A 6 7 ^^^ sp_jw A < 128 := sp_lt7 (sp_xor_lt hwf.2.2.1.1 hw) h7
  have x8 : A 6 8 ^^^ sp_jw A < 128 := sp_lt7 (sp_xor_lt hwf.2.2.1.2 hw) h7
  have ha := hc_after ⟨⟨g1, g2, g3, g4, g5⟩, hc, hcv⟩ hwf hwf.2.1.2.2
  have ha : f_X4_wantedAfter h (nI (A 6 3)) M = some (nI (sp_jw A)) := ha
  obtain ⟨M9, e9⟩ : ∃ m, m = mt_wr (mt_wr M (h + 1) 0 (nI (sp_jw A))) (h + 1) 1 (nI (sp_jw A)) := ⟨_, rfl⟩
  simp only [f_X4_joinLists, g3, ha, mt_b1E, mc_0, mc_1, g4, g5, nx_xor, kd_pc _ x7, kd_pc _ x8, mt_ltE, nI_add]
  rw [← e9]
  refine mt_lz2 (P := fun r => ∃ M', r = some (nI (sp_jc A), M') ∧ hv h M' (hs_jn A)) (fun i x m => x = nI i ∧ (∀ id, id ≠ h + 2 → m id = M9 id) ∧ ∀ t, t < 7 → m (h + 2) t = nI (if t < i then max (A 4 t) (A 5 t) else A 4 t) ∧ m (h + 2) (7 + t) = nI (if t < i then max (A 4 t) (A 5 t) else A 5 t)) 7 (by decide) ?_ ?_ ⟨rfl, fun _ _ => rfl, fun t ht => ?_⟩
  · rintro i hi x m ⟨rfl, hf, hm⟩ k
    left
    obtain ⟨p1, p2⟩ := hm i hi
    rw [if_neg (by omega)] at p1 p2
    obtain ⟨b0, b1, -⟩ := hwf.2.2.2.1 i hi
    have hin : vp_in (nI i) 14 := vp_in_nI (by omega) (by omega)
    have hcl : (nI i).toNatClampNeg = i := nI_clamp (by omega)
    have hin7 : vp_in (nI (7 + i)) 14 := vp_in_nI (by omega) (by omega)
    have hcl7 : (nI (7 + i)).toNatClampNeg = 7 + i := nI_clamp (by omega)
    have emx : (if nI (A 4 i) < nI (A 5 i) then nI (A 5 i) else nI (A 4 i)) = nI (max (A 4 i) (A 5 i)) := by
      by_cases q : A 4 i < A 5 i
      · rw [if_pos (nI_lt q (by omega)), Nat.max_eq_right (by omega)]
      · rw [if_neg (nI_nlt (by omega) (by omega)), Nat.max_eq_left (by omega)]
    refine ⟨nI (i + 1), mt_wr (mt_wr m (h + 2) i (nI (max (A 4 i) (A 5 i)))) (h + 2) (7 + i) (nI (max (A 4 i) (A 5 i))), ⟨rfl, fun id hid => ?_, fun t ht => ⟨?_, ?_⟩⟩, ?_⟩
    · rw [mt_wr_ne hid, mt_wr_ne hid]; exact hf id hid
    · rw [mt_wr_n (show t ≠ 7 + i by omega)]
      by_cases q : t = i
      · subst q; rw [mt_wr_s, if_pos (by omega)]
      · rw [mt_wr_n q, (hm t ht).1]
        by_cases z : t < i
        · rw [if_pos z, if_pos (by omega)]
        · rw [if_neg z, if_neg (by omega)]
    · by_cases q : t = i
      · subst q; rw [mt_wr_s, if_pos (by omega)]
      · rw [mt_wr_n (show 7 + t ≠ 7 + i by omega), mt_wr_n (show 7 + t ≠ i by omega), (hm t ht).2]
        by_cases z : t < i
        · rw [if_pos z, if_pos (by omega)]
        · rw [if_neg z, if_neg (by omega)]
    · simp only [mi_7, nI_add, if_neg (nI_ge hi (show 7 < 2 ^ 31 by decide)), mt_ci_t hin, mt_ci_t hin7, hcl, hcl7, p1, p2, emx, nI_1]
  · rintro x m ⟨rfl, hf, hm⟩ k
    rw [mi_7, if_pos (nI_le (Nat.le_refl _) (by omega))]
    have o1 : m h = M h := by rw [hf h (by omega), e9, mt_wr_ne (by omega), mt_wr_ne (by omega)]
    refine ⟨m, rfl, ⟨?_, ?_, ?_, ?_, ?_⟩, fun t ht => ?_, ?_⟩
    · rw [o1, hs_jn_6 A (by decide) (by decide)]; exact g1
    · rw [o1, hs_jn_6 A (by decide) (by decide)]; exact g2
    · rw [o1, hs_jn_6 A (by decide) (by decide)]; exact g3
    · rw [hf _ (by omega), e9, mt_wr_n (by decide), mt_wr_s, (hs_jn_m A).1]
    · rw [hf _ (by omega), e9, mt_wr_s, (hs_jn_m A).2]
    · obtain ⟨p1, p2⟩ := hm t ht
      rw [if_pos ht] at p1 p2
      rw [(hs_jn_c A t).1, (hs_jn_c A t).2]
      exact ⟨p1, p2⟩
    · refine cv_eq (cv_frame hcv (fun id a b => ?_)) (fun j hj => hs_jn_r A (by omega) (by omega) (by omega)) (hs_jn_6 A (by decide) (by decide)) (hs_jn_6 A (by decide) (by decide)) (hs_jn_6 A (by decide) (by decide)) (hs_jn_6 A (by decide) (by decide))
      rw [hf id (by omega), e9, mt_wr_ne (by omega), mt_wr_ne (by omega)]
  · rw [if_neg (by omega), if_neg (by omega), e9, mt_wr_ne (by omega), mt_wr_ne (by omega)]
    exact hc t ht
theorem hc_become {o : Nat} (hh : hv o M A) (hwf : hs_wf A) (hd : h + 11 ≤ o ∨ o + 11 ≤ h) : ∃ M', f_X4_become h o M = some M' ∧ hv h M' A := by
  obtain ⟨⟨g1, g2, g3, g4, g5⟩, hc, hcv⟩ := hh
  obtain ⟨M2, b1, b2⟩ := xc_become (c := h + 3) (o := o + 3) hcv (by omega) hwf.1.1
  have fr := fr_X0_become (h + 3) (o + 3) M b1
  have o0 : M2 o = M o := fr o (by omega)
  have o1 : M2 (o + 1) = M (o + 1) := fr _ (by omega)
  have o2 : M2 (o + 2) = M (o + 2) := fr _ (by omega)
  have n01 : o ≠ h + 1 := by omega
  have n02 : o ≠ h + 2 := by omega
  have n00 : o ≠ h := by omega
  have n21 : o + 2 ≠ h + 1 := by omega
  have n22 : o + 2 ≠ h + 2 := by omega
  refine ⟨_, by simp only [f_X4_become, b1, mt_b1E, mt_ltE]; rfl, ⟨?_, ?_, ?_, ?_, ?_⟩, fun t ht => ?_, ?_⟩
  · simp [mt_wr, mt_mu, upd, n00, n01, n02, o0, g1]
  · simp [mt_wr, mt_mu, upd, n00, n01, n02, o0, g2]
  · simp [mt_wr, mt_mu, upd, n00, n01, n02, o0, g3]
  · simp [mt_wr, mt_mu, upd, va_cpy, o1, g4]
  · simp [mt_wr, mt_mu, upd, va_cpy, o1, g5]
  · have ht14 : t < 14 := by omega
    have ht7 : 7 + t < 14 := by omega
    simp [mt_wr, mt_mu, upd, va_cpy, n21, n22, o2, hc t ht, ht14, ht7]
  · refine cv_frame b2 (fun id a b => ?_)
    simp only [mt_wr_ne (show id ≠ h by omega), mt_mu_ne (show id ≠ h + 2 by omega), mt_mu_ne (show id ≠ h + 1 by omega)]
theorem hc_days (hh : hv h M A) (hwf : hs_wf A) {n : Nat} (hn : n ≤ 9) : ∃ M', f_X4_liveDays h (nI n) M = some (nI (hs_days A n 6 5 - A 6 5), M') ∧ hv h M' (hs_days A n) := by
  have key : ∀ d, A 6 5 ≤ hs_days A d 6 5 := fun d => by rw [hs_days_65]; omega
  unfold f_X4_liveDays
  refine mt_lz3 (P := fun r => ∃ M', r = some (nI (hs_days A n 6 5 - A 6 5), M') ∧ hv h M' (hs_days A n)) (fun i x y m => x = nI (hs_days A i 6 5 - A 6 5) ∧ y = nI i ∧ hv h m (hs_days A i)) n (by omega) ?_ ?_ ⟨by simp only [hs_days]; rw [Nat.sub_self]; rfl, rfl, hh⟩
  · rintro i hi x y m ⟨rfl, rfl, hm⟩ k
    left
    obtain ⟨⟨g1, g2, g3, g4, g5⟩, hc, hcv⟩ := hm
    have cv4 : cv (h + 3) (mt_wr m h 4 (m h 4 + 1)) (hs_days A i) := cv_frame hcv (fun id a b => mt_wr_ne (by omega))
    obtain ⟨N, q1, q2⟩ := xc_ld cv4 (hs_ok_days hwf.1 i)
    have fr := fr_X0_liveDay _ _ q1
    have e5 : hs_days A (i + 1) 6 5 = hs_days A i 6 5 + sp_sm (hs_days A i 6 0) (fun t => hs_days A i 2 t - hs_days A i 3 t) := by
      show hs_day (hs_days A i) 6 5 = _
      unfold hs_day
      rw [hs_up_n _ (by decide), hs_dP_65]
    rw [if_neg (nI_ge hi (by omega)), mt_ltE, q1]
    simp only [mt_b2E, mt_ltE, nI_1, nI_add]
    refine ⟨_, _, N, ⟨rfl, rfl, ⟨?_, ?_, ?_, ?_, ?_⟩, fun t ht => ?_, q2⟩, ?_⟩
    · rw [fr h (by omega), mt_wr_n (by decide)]
      simp only [hs_days]
      rw [hs_day_n _ (by decide) (by decide) (by decide)]
      exact g1
    · rw [fr h (by omega), mt_wr_s, g2, nI_1]
      simp only [hs_days]
      rw [hs_day_2]
    · rw [fr h (by omega), mt_wr_n (by decide)]
      simp only [hs_days]
      rw [hs_day_n _ (by decide) (by decide) (by decide)]
      exact g3
    · rw [fr _ (by omega), mt_wr_ne (by omega)]
      simp only [hs_days]
      rw [hs_day_n _ (by decide) (by decide) (by decide)]
      exact g4
    · rw [fr _ (by omega), mt_wr_ne (by omega)]
      simp only [hs_days]
      rw [hs_day_n _ (by decide) (by decide) (by decide)]
      exact g5
    · rw [fr _ (by omega), mt_wr_ne (by omega)]
      simp only [hs_days]
      rw [hs_day_r _ (by decide) (by decide), hs_day_r _ (by decide) (by decide)]
      exact hc t ht
    · have := key i
      rw [e5, show hs_days A i 6 5 - A 6 5 + sp_sm (hs_days A i 6 0) (fun t => hs_days A i 2 t - hs_days A i 3 t) = hs_days A i 6 5 + sp_sm (hs_days A i 6 0) (fun t => hs_days A i 2 t - hs_days A i 3 t) - A 6 5 by omega]
  · rintro x y m ⟨rfl, rfl, hm⟩ k
    rw [if_pos (nI_le (Nat.le_refl _) (by omega))]
    exact ⟨m, rfl, hm⟩
/-- what a mark leaves -/
def hs_mc (A : hs_A) (l t : Nat) (c : Int32) : hs_A := if c = 119 then hs_mk A l t true else if c = 107 then hs_buy (hs_mk A l t false) t 1 else hs_mk A l t false
theorem hs_wf_mc {A : hs_A} (h : hs_wf A) {l t : Nat} (hl : l < 2) (ht : t < A 6 0) (hn : A 6 1 < 999) (c : Int32) : hs_wf (hs_mc A l t c) := by
  unfold hs_mc
  split
  · exact (hs_wf_mk h hl ht hn true).1
  · split
    · obtain ⟨a, b⟩ := hs_wf_mk h hl ht hn false
      exact hs_wf_buy a (by rw [hs_mk_6 A hl false (by decide) (by decide) (by decide)]; exact ht) b
    · exact (hs_wf_mk h hl ht hn false).1
theorem hc_mark (hh : hv h M A) (hwf : hs_wf A) {l : Nat} (hl : l < 2) (ht : t < A 6 0) (hn : A 6 1 < 999) (c : Int32) : ∃ M', f_X4_markLine h (nI l) (nI t) c M = some (0, M') ∧ hv h M' (hs_mc A l t c) := by
  have hline := hc_isLine hh hwf hl ht
  obtain ⟨⟨g1, g2, g3, g4, g5⟩, hc, hcv⟩ := hh
  have h7 := hwf.1.1
  have hin : vp_in (nI (l * 7 + t)) 14 := vp_in_nI (by omega) (by omega)
  have hcl : (nI (l * 7 + t)).toNatClampNeg = l * 7 + t := nI_clamp (by omega)
  have hin2 : vp_in (nI l) 2 := vp_in_nI (by omega) (by omega)
  have hcl2 : (nI l).toNatClampNeg = l := nI_clamp (by omega)
  have er : f_X4_refusalToMark h (nI l) (nI t) M = some 0 := by
    simp only [f_X4_refusalToMark, hline, mt_b1E, mt_10, if_false, g1]
    rw [mi_999, if_pos (nI_lt hn (by decide))]
  have em : ∀ v, v < 2 → M (h + 1) v = nI (A 6 (7 + v)) := fun v hv => by
    rcases (show v = 0 ∨ v = 1 by omega) with rfl | rfl
    · exact g4
    · exact g5
  obtain ⟨M5, e5⟩ : ∃ m, m = mt_wr (mt_wr M h 3 (nI (A 6 1 + 1))) (h + 2) (l * 7 + t) (nI (A 6 1 + 1)) := ⟨_, rfl⟩
  have key : ∀ b, hv h (mt_wr M5 (h + 1) l (nI (if b = true then A 6 (7 + l) ||| 2 ^ t else sp_an (A 6 (7 + l)) (2 ^ t)))) (hs_mk A l t b) := by
    intro b
    have o0 : ∀ k, k ≠ 3 → (mt_wr M5 (h + 1) l (nI (if b = true then A 6 (7 + l) ||| 2 ^ t else sp_an (A 6 (7 + l)) (2 ^ t)))) h k = M h k := fun k hk => by
      rw [mt_wr_ne (by omega), e5, mt_wr_ne (by omega), mt_wr_n hk]
    have o1 : ∀ v, v < 2 → (mt_wr M5 (h + 1) l (nI (if b = true then A 6 (7 + l) ||| 2 ^ t else sp_an (A 6 (7 + l)) (2 ^ t)))) (h + 1) v = nI (hs_mk A l t b 6 (7 + v)) := fun v hv => by
      rw [hs_mk_m A hl b hv]
      by_cases q : v = l
      · subst q; rw [mt_wr_s, if_pos rfl]
      · rw [mt_wr_n q, e5, mt_wr_ne (by omega), mt_wr_ne (by omega), if_neg q]; exact em v hv
    have o2 : ∀ v, v < 2 → ∀ x, x < 7 → (mt_wr M5 (h + 1) l (nI (if b = true then A 6 (7 + l) ||| 2 ^ t else sp_an (A 6 (7 + l)) (2 ^ t)))) (h + 2) (v * 7 + x) = nI (hs_mk A l t b (4 + v) x) := fun v hv x hx => by
      rw [hs_mk_c A hl b hv, mt_wr_ne (by omega), e5]
      by_cases q : v = l ∧ x = t
      · obtain ⟨rfl, rfl⟩ := q
        rw [mt_wr_s, if_pos ⟨rfl, rfl⟩]
      · rw [mt_wr_n (by omega), mt_wr_ne (by omega), if_neg q]
        rcases (show v = 0 ∨ v = 1 by omega) with rfl | rfl
        · rw [show 0 * 7 + x = x by omega]; exact (hc x hx).1
        · rw [show 1 * 7 + x = 7 + x by omega]; exact (hc x hx).2
    refine ⟨⟨?_, ?_, ?_, o1 0 (by decide), o1 1 (by decide)⟩, fun x hx => ⟨?_, ?_⟩, ?_⟩
    · rw [hs_mk_1 A hl b, mt_wr_ne (by omega), e5, mt_wr_ne (by omega), mt_wr_s]
    · rw [o0 4 (by decide), hs_mk_6 A hl b (by decide) (by decide) (by decide)]; exact g2
    · rw [o0 5 (by decide), hs_mk_6 A hl b (by decide) (by decide) (by decide)]; exact g3
    · have := o2 0 (by decide) x hx
      rw [show 0 * 7 + x = x by omega] at this
      exact this
    · have := o2 1 (by decide) x hx
      rw [show 1 * 7 + x = 7 + x by omega] at this
      exact this
    · refine cv_eq (cv_frame hcv (fun id a b => ?_)) (fun j hj => hs_mk_r A l t b hj) (hs_mk_6 A hl b (by decide) (by decide) (by decide)) (hs_mk_6 A hl b (by decide) (by decide) (by decide)) (hs_mk_6 A hl b (by decide) (by decide) (by decide)) (hs_mk_6 A hl b (by decide) (by decide) (by decide))
      rw [mt_wr_ne (by omega), e5, mt_wr_ne (by omega), mt_wr_ne (by omega)]
  have eM5 : M5 (h + 1) l = nI (A 6 (7 + l)) := by rw [e5, mt_wr_ne (by omega), mt_wr_ne (by omega)]; exact em l hl
  have ew3 : mt_wr M h 3 (nI (A 6 1 + 1)) h 3 = nI (A 6 1 + 1) := mt_wr_s _ _ _ _
  simp only [f_X4_markLine, er, mt_b1E, if_true, g1, nI_1, mi_7, pk_mul, nI_add, mt_ci_t hin, hcl, mt_ltE, ew3]
  rw [← e5]
  simp only [mt_ci_t hin2, hcl2, eM5, nx_shl (show t < 31 by omega), nx_or, nx_andn]
  unfold hs_mc
  by_cases c1 : c = 119
  · subst c1
    rw [if_pos rfl, if_neg (show ¬ (119 : Int32) = 107 by decide), if_pos rfl]
    exact ⟨_, rfl, key true⟩
  · rw [if_neg c1, if_neg c1]
    by_cases c2 : c = 107
    · rw [if_pos c2, if_pos c2]
      have kf := key false
      obtain ⟨⟨k1, k2, k3, k4, k5⟩, kc, kcv⟩ := kf
      have okm := (hs_wf_mk hwf hl ht hn false).1.1
      obtain ⟨N, n1, n2⟩ := xc_buy kcv okm (t := t) (by rw [hs_mk_6 A hl false (by decide) (by decide) (by decide)]; exact ht) (k := 1) (by decide)
      have fr := fr_X0_buy _ _ _ _ n1
      simp only [if_false, Bool.false_eq_true] at n1 k1 k2 k3 k4 k5 kc fr
      rw [mi_1, n1, mt_b1E]
      refine ⟨N, rfl, ⟨?_, ?_, ?_, ?_, ?_⟩, fun x hx => ?_, n2⟩
      · rw [fr h (by omega), hs_buy_n _ _ _ (by decide)]; exact k1
      · rw [fr h (by omega), hs_buy_n _ _ _ (by decide)]; exact k2
      · rw [fr h (by omega), hs_buy_n _ _ _ (by decide)]; exact k3
      · rw [fr _ (by omega), hs_buy_n _ _ _ (by decide)]; exact k4
      · rw [fr _ (by omega), hs_buy_n _ _ _ (by decide)]; exact k5
      · rw [fr _ (by omega), hs_buy_r _ _ _ (by decide) (by decide), hs_buy_r _ _ _ (by decide) (by decide)]; exact kc x hx
    · rw [if_neg c2, if_neg c2]
      exact ⟨_, rfl, key false⟩
end HC2

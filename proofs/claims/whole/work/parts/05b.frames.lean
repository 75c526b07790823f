/-! WHAT A METHOD LEAVES ALONE, laid by program -/
set_option maxHeartbeats 4000000 in
set_option maxRecDepth 100000 in
theorem fr_X0_become (c : Nat) (o1 : Nat) (M : mt_M) {M' : mt_M} (hf : f_X0_become c o1 M = some (M')) : ∀ id : Nat, (id < c ∨ c + 8 ≤ id) → (M') id = M id := by
  unfold f_X0_become at hf
  have hfr : ∀ id : Nat, (id < c ∨ c + 8 ≤ id) → M id = M id := fun _ _ => rfl
  refine mt_ltI hf (fun M1 eM1 hf => ?_)
  have hfr : ∀ id : Nat, (id < c ∨ c + 8 ≤ id) → M1 id = M id := fun id hid => (by rw [eM1]; exact mt_mu_ne (by omega) : M1 id = M id).trans (hfr id hid)
  refine mt_ltI hf (fun M2 eM2 hf => ?_)
  have hfr : ∀ id : Nat, (id < c ∨ c + 8 ≤ id) → M2 id = M id := fun id hid => (by rw [eM2]; exact mt_mu_ne (by omega) : M2 id = M1 id).trans (hfr id hid)
  refine mt_ltI hf (fun M3 eM3 hf => ?_)
  have hfr : ∀ id : Nat, (id < c ∨ c + 8 ≤ id) → M3 id = M id := fun id hid => (by rw [eM3]; exact mt_mu_ne (by omega) : M3 id = M2 id).trans (hfr id hid)
  refine mt_ltI hf (fun M4 eM4 hf => ?_)
  have hfr : ∀ id : Nat, (id < c ∨ c + 8 ≤ id) → M4 id = M id := fun id hid => (by rw [eM4]; exact mt_mu_ne (by omega) : M4 id = M3 id).trans (hfr id hid)
  refine mt_ltI hf (fun M5 eM5 hf => ?_)
  have hfr : ∀ id : Nat, (id < c ∨ c + 8 ≤ id) → M5 id = M id := fun id hid => (by rw [eM5]; exact mt_mu_ne (by omega) : M5 id = M4 id).trans (hfr id hid)
  refine mt_ltI hf (fun M6 eM6 hf => ?_)
  have hfr : ∀ id : Nat, (id < c ∨ c + 8 ≤ id) → M6 id = M id := fun id hid => (by rw [eM6]; exact mt_mu_ne (by omega) : M6 id = M5 id).trans (hfr id hid)
  refine mt_ltI hf (fun M7 eM7 hf => ?_)
  have hfr : ∀ id : Nat, (id < c ∨ c + 8 ≤ id) → M7 id = M id := fun id hid => (by rw [eM7]; exact mt_mu_ne (by omega) : M7 id = M6 id).trans (hfr id hid)
  refine mt_ltI hf (fun M8 eM8 hf => ?_)
  have hfr : ∀ id : Nat, (id < c ∨ c + 8 ≤ id) → M8 id = M id := fun id hid => (by rw [eM8]; exact mt_mu_ne (by omega) : M8 id = M7 id).trans (hfr id hid)
  refine mt_ltI hf (fun M9 eM9 hf => ?_)
  have hfr : ∀ id : Nat, (id < c ∨ c + 8 ≤ id) → M9 id = M id := fun id hid => (by rw [eM9]; exact mt_mu_ne (by omega) : M9 id = M8 id).trans (hfr id hid)
  refine mt_ltI hf (fun M10 eM10 hf => ?_)
  have hfr : ∀ id : Nat, (id < c ∨ c + 8 ≤ id) → M10 id = M id := fun id hid => (by rw [eM10]; exact mt_mu_ne (by omega) : M10 id = M9 id).trans (hfr id hid)
  have i1 := mt_so1 hf
  subst i1
  exact hfr
set_option maxHeartbeats 4000000 in
set_option maxRecDepth 100000 in
theorem fr_X0_forgetTallies (c : Nat) (M : mt_M) {M' : mt_M} (hf : f_X0_forgetTallies c M = some (M')) : ∀ id : Nat, (id < c ∨ c + 8 ≤ id) → (M') id = M id := by
  unfold f_X0_forgetTallies at hf
  have hfr : ∀ id : Nat, (id < c ∨ c + 8 ≤ id) → M id = M id := fun _ _ => rfl
  refine mt_ltI hf (fun M1 eM1 hf => ?_)
  have hfr : ∀ id : Nat, (id < c ∨ c + 8 ≤ id) → M1 id = M id := fun id hid => (by rw [eM1]; exact mt_mu_ne (by omega) : M1 id = M id).trans (hfr id hid)
  refine mt_ltI hf (fun M2 eM2 hf => ?_)
  have hfr : ∀ id : Nat, (id < c ∨ c + 8 ≤ id) → M2 id = M id := fun id hid => (by rw [eM2]; exact mt_mu_ne (by omega) : M2 id = M1 id).trans (hfr id hid)
  refine mt_ltI hf (fun M3 eM3 hf => ?_)
  have hfr : ∀ id : Nat, (id < c ∨ c + 8 ≤ id) → M3 id = M id := fun id hid => (by rw [eM3]; exact mt_mu_ne (by omega) : M3 id = M2 id).trans (hfr id hid)
  have i1 := mt_so1 hf
  subst i1
  exact hfr
set_option maxHeartbeats 4000000 in
set_option maxRecDepth 100000 in
theorem fr_X0_add (c : Nat) (a1 : Int32) (a2 : Int32) (a3 : Int32) (M : mt_M) {r : Int32} {M' : mt_M} (hf : f_X0_add c a1 a2 a3 M = some (r, M')) : ∀ id : Nat, (id < c ∨ c + 8 ≤ id) → (M') id = M id := by
  unfold f_X0_add at hf
  have hfr : ∀ id : Nat, (id < c ∨ c + 8 ≤ id) → M id = M id := fun _ _ => rfl
  refine mt_b1I hf (fun r2 hg1 hf => ?_)
  by_cases c3 : r2 = 0
  · have hf := mt_ifT c3 hf
    refine mt_ltI hf (fun x4 _ hf => ?_)
    refine mt_ciI hf (fun _ hf => ?_)
    refine mt_ltI hf (fun M5 eM5 hf => ?_)
    have hfr : ∀ id : Nat, (id < c ∨ c + 8 ≤ id) → M5 id = M id := fun id hid => (by rw [eM5]; exact mt_mu_ne (by omega) : M5 id = M id).trans (hfr id hid)
    refine mt_ciI hf (fun _ hf => ?_)
    refine mt_ltI hf (fun M7 eM7 hf => ?_)
    have hfr : ∀ id : Nat, (id < c ∨ c + 8 ≤ id) → M7 id = M id := fun id hid => (by rw [eM7]; exact mt_mu_ne (by omega) : M7 id = M5 id).trans (hfr id hid)
    refine mt_ciI hf (fun _ hf => ?_)
    refine mt_ltI hf (fun M9 eM9 hf => ?_)
    have hfr : ∀ id : Nat, (id < c ∨ c + 8 ≤ id) → M9 id = M id := fun id hid => (by rw [eM9]; exact mt_mu_ne (by omega) : M9 id = M7 id).trans (hfr id hid)
    refine mt_ciI hf (fun q11 hf => ?_)
    refine mt_ltI hf (fun g12 eg12 hf => ?_)
    refine mt_b1I hf (fun r14 hg13 hf => ?_)
    refine mt_ciI hf (fun _ hf => ?_)
    refine mt_ltI hf (fun M15 eM15 hf => ?_)
    have hfr : ∀ id : Nat, (id < c ∨ c + 8 ≤ id) → M15 id = M id := fun id hid => (by rw [eM15]; exact mt_mu_ne (by omega) : M15 id = M9 id).trans (hfr id hid)
    refine mt_ciI hf (fun q17 hf => ?_)
    refine mt_ltI hf (fun g18 eg18 hf => ?_)
    refine mt_b1I hf (fun r20 hg19 hf => ?_)
    refine mt_ciI hf (fun _ hf => ?_)
    refine mt_ltI hf (fun M21 eM21 hf => ?_)
    have hfr : ∀ id : Nat, (id < c ∨ c + 8 ≤ id) → M21 id = M id := fun id hid => (by rw [eM21]; exact mt_mu_ne (by omega) : M21 id = M15 id).trans (hfr id hid)
    refine mt_ciI hf (fun _ hf => ?_)
    refine mt_ltI hf (fun M23 eM23 hf => ?_)
    have hfr : ∀ id : Nat, (id < c ∨ c + 8 ≤ id) → M23 id = M id := fun id hid => (by rw [eM23]; exact mt_mu_ne (by omega) : M23 id = M21 id).trans (hfr id hid)
    refine mt_ltI hf (fun M25 eM25 hf => ?_)
    have hfr : ∀ id : Nat, (id < c ∨ c + 8 ≤ id) → M25 id = M id := fun id hid => (by rw [eM25]; exact mt_mu_ne (by omega) : M25 id = M23 id).trans (hfr id hid)
    obtain ⟨i1, i2⟩ := mt_so2 hf
    subst i1
    subst i2
    exact hfr
  · have hf := mt_ifF c3 hf
    obtain ⟨i1, i2⟩ := mt_so2 hf
    subst i1
    subst i2
    exact hfr
set_option maxHeartbeats 4000000 in
set_option maxRecDepth 100000 in
theorem fr_X0_putStock (c : Nat) (a1 : Int32) (a2 : Int32) (M : mt_M) {M' : mt_M} (hf : f_X0_putStock c a1 a2 M = some (M')) : ∀ id : Nat, (id < c ∨ c + 8 ≤ id) → (M') id = M id := by
  unfold f_X0_putStock at hf
  have hfr : ∀ id : Nat, (id < c ∨ c + 8 ≤ id) → M id = M id := fun _ _ => rfl
  refine mt_b1I hf (fun r2 hg1 hf => ?_)
  by_cases c3 : r2 = 0
  · have hf := mt_ifT c3 hf
    have i1 := mt_so1 hf
    subst i1
    exact hfr
  · have hf := mt_ifF c3 hf
    refine mt_ltI hf (fun x4 _ hf => ?_)
    refine mt_ltI hf (fun x5 _ hf => ?_)
    refine mt_ciI hf (fun _ hf => ?_)
    refine mt_ltI hf (fun M6 eM6 hf => ?_)
    have hfr : ∀ id : Nat, (id < c ∨ c + 8 ≤ id) → M6 id = M id := fun id hid => (by rw [eM6]; exact mt_mu_ne (by omega) : M6 id = M id).trans (hfr id hid)
    have i1 := mt_so1 hf
    subst i1
    exact hfr
set_option maxHeartbeats 4000000 in
set_option maxRecDepth 100000 in
theorem fr_X0_buy (c : Nat) (a1 : Int32) (a2 : Int32) (M : mt_M) {M' : mt_M} (hf : f_X0_buy c a1 a2 M = some (M')) : ∀ id : Nat, (id < c ∨ c + 8 ≤ id) → (M') id = M id := by
  unfold f_X0_buy at hf
  have hfr : ∀ id : Nat, (id < c ∨ c + 8 ≤ id) → M id = M id := fun _ _ => rfl
  refine mt_b1I hf (fun r2 hg1 hf => ?_)
  refine mt_b1I hf (fun r4 hg3 hf => ?_)
  refine mt_b1I hf (fun M6 hg5 hf => ?_)
  have hfr : ∀ id : Nat, (id < c ∨ c + 8 ≤ id) → M6 id = M id := fun id hid => (fr_X0_putStock c a1 (r2 + (a2 * r4)) M hg5 id (by omega)).trans (hfr id hid)
  refine mt_b1I hf (fun r8 hg7 hf => ?_)
  refine mt_ltI hf (fun M9 eM9 hf => ?_)
  have hfr : ∀ id : Nat, (id < c ∨ c + 8 ≤ id) → M9 id = M id := fun id hid => (by rw [eM9]; exact mt_mu_ne (by omega) : M9 id = M6 id).trans (hfr id hid)
  have i1 := mt_so1 hf
  subst i1
  exact hfr
set_option maxHeartbeats 4000000 in
set_option maxRecDepth 100000 in
theorem fr_X0_liveDayOf (c : Nat) (a1 : Int32) (M : mt_M) {r : Int32} {M' : mt_M} (hf : f_X0_liveDayOf c a1 M = some (r, M')) : ∀ id : Nat, (id < c ∨ c + 8 ≤ id) → (M') id = M id := by
  unfold f_X0_liveDayOf at hf
  have hfr : ∀ id : Nat, (id < c ∨ c + 8 ≤ id) → M id = M id := fun _ _ => rfl
  refine mt_b1I hf (fun r2 hg1 hf => ?_)
  by_cases c3 : r2 = 0
  · have hf := mt_ifT c3 hf
    obtain ⟨i1, i2⟩ := mt_so2 hf
    subst i1
    subst i2
    exact hfr
  · have hf := mt_ifF c3 hf
    refine mt_ciI hf (fun _ hf => ?_)
    refine mt_ciI hf (fun _ hf => ?_)
    refine mt_ltI hf (fun x6 _ hf => ?_)
    refine mt_ciI hf (fun _ hf => ?_)
    refine mt_ciI hf (fun _ hf => ?_)
    refine mt_ltI hf (fun x9 _ hf => ?_)
    refine mt_ciI hf (fun _ hf => ?_)
    refine mt_ciI hf (fun q11 hf => ?_)
    refine mt_ltI hf (fun g12 eg12 hf => ?_)
    refine mt_ciI hf (fun _ hf => ?_)
    refine mt_b1I hf (fun r15 hg14 hf => ?_)
    refine mt_ciI hf (fun _ hf => ?_)
    refine mt_ltI hf (fun M16 eM16 hf => ?_)
    have hfr : ∀ id : Nat, (id < c ∨ c + 8 ≤ id) → M16 id = M id := fun id hid => (by rw [eM16]; exact mt_mu_ne (by omega) : M16 id = M id).trans (hfr id hid)
    refine mt_ltI hf (fun M18 eM18 hf => ?_)
    have hfr : ∀ id : Nat, (id < c ∨ c + 8 ≤ id) → M18 id = M id := fun id hid => (by rw [eM18]; exact mt_mu_ne (by omega) : M18 id = M16 id).trans (hfr id hid)
    refine mt_ltI hf (fun M19 eM19 hf => ?_)
    have hfr : ∀ id : Nat, (id < c ∨ c + 8 ≤ id) → M19 id = M id := fun id hid => (by rw [eM19]; exact mt_mu_ne (by omega) : M19 id = M18 id).trans (hfr id hid)
    obtain ⟨i1, i2⟩ := mt_so2 hf
    subst i1
    subst i2
    exact hfr
set_option maxHeartbeats 4000000 in
set_option maxRecDepth 100000 in
theorem fr_X0_liveDay (c : Nat) (M : mt_M) {r : Int32} {M' : mt_M} (hf : f_X0_liveDay c M = some (r, M')) : ∀ id : Nat, (id < c ∨ c + 8 ≤ id) → (M') id = M id := by
  unfold f_X0_liveDay at hf
  have hfr : ∀ id : Nat, (id < c ∨ c + 8 ≤ id) → M id = M id := fun _ _ => rfl
  refine mt_lpI3 hf (fun (x1 : Int32) (x2 : Int32) (M3 : mt_M) => (∀ id : Nat, (id < c ∨ c + 8 ≤ id) → M3 id = M id) → ∀ id : Nat, (id < c ∨ c + 8 ≤ id) → (M') id = M id) ?_ hfr
  intro k4 ih5 x1 x2 M3 hf hfr
  by_cases c6 : (M3 c 8) ≤ x2
  · have hf := mt_ifT c6 hf
    obtain ⟨i1, i2⟩ := mt_so2 hf
    subst i1
    subst i2
    exact hfr
  · have hf := mt_ifF c6 hf
    refine mt_b2I hf (fun r8 M9 hg7 hf => ?_)
    have hfr : ∀ id : Nat, (id < c ∨ c + 8 ≤ id) → M9 id = M id := fun id hid => (fr_X0_liveDayOf c x2 M3 hg7 id (by omega)).trans (hfr id hid)
    refine mt_ltI hf (fun x10 _ hf => ?_)
    refine mt_ltI hf (fun x11 _ hf => ?_)
    exact ih5 x10 x11 M9 hf hfr
set_option maxHeartbeats 4000000 in
set_option maxRecDepth 100000 in
theorem fr_X0_changeUses (c : Nat) (a1 : Int32) (a2 : Int32) (M : mt_M) {M' : mt_M} (hf : f_X0_changeUses c a1 a2 M = some (M')) : ∀ id : Nat, (id < c ∨ c + 8 ≤ id) → (M') id = M id := by
  unfold f_X0_changeUses at hf
  have hfr : ∀ id : Nat, (id < c ∨ c + 8 ≤ id) → M id = M id := fun _ _ => rfl
  refine mt_b1I hf (fun r2 hg1 hf => ?_)
  by_cases c3 : r2 = 0
  · have hf := mt_ifT c3 hf
    have i1 := mt_so1 hf
    subst i1
    exact hfr
  · have hf := mt_ifF c3 hf
    refine mt_b1I hf (fun r5 hg4 hf => ?_)
    by_cases c6 : r5 = 0
    · have hf := mt_ifT c6 hf
      have i1 := mt_so1 hf
      subst i1
      exact hfr
    · have hf := mt_ifF c6 hf
      refine mt_ciI hf (fun _ hf => ?_)
      refine mt_ltI hf (fun x8 _ hf => ?_)
      refine mt_ciI hf (fun _ hf => ?_)
      refine mt_ciI hf (fun _ hf => ?_)
      refine mt_ltI hf (fun M10 eM10 hf => ?_)
      have hfr : ∀ id : Nat, (id < c ∨ c + 8 ≤ id) → M10 id = M id := fun id hid => (by rw [eM10]; exact mt_mu_ne (by omega) : M10 id = M id).trans (hfr id hid)
      refine mt_ciI hf (fun _ hf => ?_)
      refine mt_ltI hf (fun M12 eM12 hf => ?_)
      have hfr : ∀ id : Nat, (id < c ∨ c + 8 ≤ id) → M12 id = M id := fun id hid => (by rw [eM12]; exact mt_mu_ne (by omega) : M12 id = M10 id).trans (hfr id hid)
      have i1 := mt_so1 hf
      subst i1
      exact hfr
set_option maxHeartbeats 4000000 in
set_option maxRecDepth 100000 in
theorem fr_X0_hangTogether (c : Nat) (a1 : Int32) (a2 : Int32) (M : mt_M) {M' : mt_M} (hf : f_X0_hangTogether c a1 a2 M = some (M')) : ∀ id : Nat, (id < c ∨ c + 8 ≤ id) → (M') id = M id := by
  unfold f_X0_hangTogether at hf
  have hfr : ∀ id : Nat, (id < c ∨ c + 8 ≤ id) → M id = M id := fun _ _ => rfl
  refine mt_lpI2 hf (fun (x1 : Int32) (M2 : mt_M) => (∀ id : Nat, (id < c ∨ c + 8 ≤ id) → M2 id = M id) → ∀ id : Nat, (id < c ∨ c + 8 ≤ id) → (M') id = M id) ?_ hfr
  intro k3 ih4 x1 M2 hf hfr
  by_cases c5 : (M2 c 8) ≤ x1
  · have hf := mt_ifT c5 hf
    have i1 := mt_so1 hf
    subst i1
    exact hfr
  · have hf := mt_ifF c5 hf
    refine mt_ciI hf (fun _ hf => ?_)
    refine mt_jn1 hf (fun (M7 : mt_M) => (∀ id : Nat, (id < c ∨ c + 8 ≤ id) → M7 id = M id) → ∀ id : Nat, (id < c ∨ c + 8 ≤ id) → (M') id = M id) ?_ ?_
    · intro M7 hf hfr
      refine mt_ltI hf (fun x10 _ hf => ?_)
      exact ih4 x10 M7 hf hfr
    · intro j8 hj9 hf
      by_cases c11 : (M2 (c + 7) x1.toNatClampNeg) = a2
      · have hf := mt_ifT c11 hf
        refine mt_ciI hf (fun _ hf => ?_)
        refine mt_ltI hf (fun M12 eM12 hf => ?_)
        have hfr : ∀ id : Nat, (id < c ∨ c + 8 ≤ id) → M12 id = M id := fun id hid => (by rw [eM12]; exact mt_mu_ne (by omega) : M12 id = M2 id).trans (hfr id hid)
        exact hj9 M12 hf hfr
      · have hf := mt_ifF c11 hf
        exact hj9 M2 hf hfr
set_option maxHeartbeats 4000000 in
set_option maxRecDepth 100000 in
theorem fr_X0_alikeLinks (c : Nat) (M : mt_M) {r : Int32} {M' : mt_M} (hf : f_X0_alikeLinks c M = some (r, M')) : ∀ id : Nat, (id < c ∨ c + 8 ≤ id) → (M') id = M id := by
  unfold f_X0_alikeLinks at hf
  have hfr : ∀ id : Nat, (id < c ∨ c + 8 ≤ id) → M id = M id := fun _ _ => rfl
  refine mt_lpI2 hf (fun (x1 : Int32) (M2 : mt_M) => (∀ id : Nat, (id < c ∨ c + 8 ≤ id) → M2 id = M id) → ∀ id : Nat, (id < c ∨ c + 8 ≤ id) → (M') id = M id) ?_ hfr
  intro k3 ih4 x1 M2 hf hfr
  by_cases c5 : (M2 c 8) ≤ x1
  · have hf := mt_ifT c5 hf
    refine mt_lpI3 hf (fun (x6 : Int32) (x7 : Int32) (M8 : mt_M) => (∀ id : Nat, (id < c ∨ c + 8 ≤ id) → M8 id = M id) → ∀ id : Nat, (id < c ∨ c + 8 ≤ id) → (M') id = M id) ?_ hfr
    intro k9 ih10 x6 x7 M8 hf hfr
    by_cases c11 : (M8 c 8) ≤ x7
    · have hf := mt_ifT c11 hf
      obtain ⟨i1, i2⟩ := mt_so2 hf
      subst i1
      subst i2
      exact hfr
    · have hf := mt_ifF c11 hf
      refine mt_ltI hf (fun x12 _ hf => ?_)
      refine mt_lpI3 hf (fun (x13 : Int32) (x14 : Int32) (M15 : mt_M) => (∀ id : Nat, (id < c ∨ c + 8 ≤ id) → M15 id = M id) → ∀ id : Nat, (id < c ∨ c + 8 ≤ id) → (M') id = M id) ?_ hfr
      intro k16 ih17 x13 x14 M15 hf hfr
      by_cases c18 : (M15 c 8) ≤ x14
      · have hf := mt_ifT c18 hf
        refine mt_ltI hf (fun x19 _ hf => ?_)
        exact ih10 x13 x19 M15 hf hfr
      · have hf := mt_ifF c18 hf
        refine mt_b1I hf (fun r21 hg20 hf => ?_)
        refine mt_jn2 hf (fun (x22 : Int32) (M23 : mt_M) => (∀ id : Nat, (id < c ∨ c + 8 ≤ id) → M23 id = M id) → ∀ id : Nat, (id < c ∨ c + 8 ≤ id) → (M') id = M id) ?_ ?_
        · intro x22 M23 hf hfr
          refine mt_ltI hf (fun x26 _ hf => ?_)
          exact ih17 x22 x26 M23 hf hfr
        · intro j24 hj25 hf
          by_cases c27 : r21 = 0
          · have hf := mt_ifT c27 hf
            exact hj25 x13 M15 hf hfr
          · have hf := mt_ifF c27 hf
            refine mt_ciI hf (fun _ hf => ?_)
            refine mt_ciI hf (fun _ hf => ?_)
            by_cases c30 : (M15 (c + 7) x7.toNatClampNeg) = (M15 (c + 7) x14.toNatClampNeg)
            · have hf := mt_ifT c30 hf
              exact hj25 x13 M15 hf hfr
            · have hf := mt_ifF c30 hf
              refine mt_ciI hf (fun _ hf => ?_)
              refine mt_ciI hf (fun _ hf => ?_)
              refine mt_b1I hf (fun M34 hg33 hf => ?_)
              have hfr : ∀ id : Nat, (id < c ∨ c + 8 ≤ id) → M34 id = M id := fun id hid => (fr_X0_hangTogether c (M15 (c + 7) x7.toNatClampNeg) (M15 (c + 7) x14.toNatClampNeg) M15 hg33 id (by omega)).trans (hfr id hid)
              refine mt_ltI hf (fun x35 _ hf => ?_)
              exact hj25 x35 M34 hf hfr
  · have hf := mt_ifF c5 hf
    refine mt_ciI hf (fun _ hf => ?_)
    refine mt_ltI hf (fun M36 eM36 hf => ?_)
    have hfr : ∀ id : Nat, (id < c ∨ c + 8 ≤ id) → M36 id = M id := fun id hid => (by rw [eM36]; exact mt_mu_ne (by omega) : M36 id = M2 id).trans (hfr id hid)
    refine mt_ltI hf (fun x38 _ hf => ?_)
    exact ih4 x38 M36 hf hfr
set_option maxHeartbeats 4000000 in
set_option maxRecDepth 100000 in
theorem fr_X4_become (h : Nat) (o1 : Nat) (M : mt_M) {M' : mt_M} (hf : f_X4_become h o1 M = some (M')) : ∀ id : Nat, (id < h ∨ h + 11 ≤ id) → (M') id = M id := by
  unfold f_X4_become at hf
  have hfr : ∀ id : Nat, (id < h ∨ h + 11 ≤ id) → M id = M id := fun _ _ => rfl
  refine mt_b1I hf (fun M2 hg1 hf => ?_)
  have hfr : ∀ id : Nat, (id < h ∨ h + 11 ≤ id) → M2 id = M id := fun id hid => (fr_X0_become (h + 3) (o1 + 3) M hg1 id (by omega)).trans (hfr id hid)
  refine mt_ltI hf (fun M3 eM3 hf => ?_)
  have hfr : ∀ id : Nat, (id < h ∨ h + 11 ≤ id) → M3 id = M id := fun id hid => (by rw [eM3]; exact mt_mu_ne (by omega) : M3 id = M2 id).trans (hfr id hid)
  refine mt_ltI hf (fun M4 eM4 hf => ?_)
  have hfr : ∀ id : Nat, (id < h ∨ h + 11 ≤ id) → M4 id = M id := fun id hid => (by rw [eM4]; exact mt_mu_ne (by omega) : M4 id = M3 id).trans (hfr id hid)
  refine mt_ltI hf (fun M5 eM5 hf => ?_)
  have hfr : ∀ id : Nat, (id < h ∨ h + 11 ≤ id) → M5 id = M id := fun id hid => (by rw [eM5]; exact mt_mu_ne (by omega) : M5 id = M4 id).trans (hfr id hid)
  refine mt_ltI hf (fun M6 eM6 hf => ?_)
  have hfr : ∀ id : Nat, (id < h ∨ h + 11 ≤ id) → M6 id = M id := fun id hid => (by rw [eM6]; exact mt_mu_ne (by omega) : M6 id = M5 id).trans (hfr id hid)
  refine mt_ltI hf (fun M7 eM7 hf => ?_)
  have hfr : ∀ id : Nat, (id < h ∨ h + 11 ≤ id) → M7 id = M id := fun id hid => (by rw [eM7]; exact mt_mu_ne (by omega) : M7 id = M6 id).trans (hfr id hid)
  have i1 := mt_so1 hf
  subst i1
  exact hfr
set_option maxHeartbeats 4000000 in
set_option maxRecDepth 100000 in
theorem fr_X4_markLine (h : Nat) (a1 : Int32) (a2 : Int32) (a3 : Int32) (M : mt_M) {r : Int32} {M' : mt_M} (hf : f_X4_markLine h a1 a2 a3 M = some (r, M')) : ∀ id : Nat, (id < h ∨ h + 11 ≤ id) → (M') id = M id := by
  unfold f_X4_markLine at hf
  have hfr : ∀ id : Nat, (id < h ∨ h + 11 ≤ id) → M id = M id := fun _ _ => rfl
  refine mt_b1I hf (fun r2 hg1 hf => ?_)
  by_cases c3 : r2 = 0
  · have hf := mt_ifT c3 hf
    refine mt_ltI hf (fun M4 eM4 hf => ?_)
    have hfr : ∀ id : Nat, (id < h ∨ h + 11 ≤ id) → M4 id = M id := fun id hid => (by rw [eM4]; exact mt_mu_ne (by omega) : M4 id = M id).trans (hfr id hid)
    refine mt_ciI hf (fun _ hf => ?_)
    refine mt_ltI hf (fun M5 eM5 hf => ?_)
    have hfr : ∀ id : Nat, (id < h ∨ h + 11 ≤ id) → M5 id = M id := fun id hid => (by rw [eM5]; exact mt_mu_ne (by omega) : M5 id = M4 id).trans (hfr id hid)
    refine mt_ltI hf (fun x7 _ hf => ?_)
    refine mt_jn1 hf (fun (v8 : Int32) => (∀ id : Nat, (id < h ∨ h + 11 ≤ id) → M5 id = M id) → ∀ id : Nat, (id < h ∨ h + 11 ≤ id) → (M') id = M id) ?_ ?_
    · intro v8 hf hfr
      refine mt_ciI hf (fun _ hf => ?_)
      refine mt_ltI hf (fun M11 eM11 hf => ?_)
      have hfr : ∀ id : Nat, (id < h ∨ h + 11 ≤ id) → M11 id = M id := fun id hid => (by rw [eM11]; exact mt_mu_ne (by omega) : M11 id = M5 id).trans (hfr id hid)
      by_cases c13 : a3 = (107 : Int32)
      · have hf := mt_ifT c13 hf
        refine mt_b1I hf (fun M15 hg14 hf => ?_)
        have hfr : ∀ id : Nat, (id < h ∨ h + 11 ≤ id) → M15 id = M id := fun id hid => (fr_X0_buy (h + 3) a2 (1 : Int32) M11 hg14 id (by omega)).trans (hfr id hid)
        obtain ⟨i1, i2⟩ := mt_so2 hf
        subst i1
        subst i2
        exact hfr
      · have hf := mt_ifF c13 hf
        obtain ⟨i1, i2⟩ := mt_so2 hf
        subst i1
        subst i2
        exact hfr
    · intro j9 hj10 hf
      by_cases c16 : a3 = (119 : Int32)
      · have hf := mt_ifT c16 hf
        refine mt_ciI hf (fun _ hf => ?_)
        exact hj10 ((M5 (h + 1) a1.toNatClampNeg) ||| x7) hf hfr
      · have hf := mt_ifF c16 hf
        refine mt_ciI hf (fun _ hf => ?_)
        exact hj10 ((M5 (h + 1) a1.toNatClampNeg) &&& (x7 ^^^ (-1 : Int32))) hf hfr
  · have hf := mt_ifF c3 hf
    obtain ⟨i1, i2⟩ := mt_so2 hf
    subst i1
    subst i2
    exact hfr
set_option maxHeartbeats 4000000 in
set_option maxRecDepth 100000 in
theorem fr_X4_liveDays (h : Nat) (a1 : Int32) (M : mt_M) {r : Int32} {M' : mt_M} (hf : f_X4_liveDays h a1 M = some (r, M')) : ∀ id : Nat, (id < h ∨ h + 11 ≤ id) → (M') id = M id := by
  unfold f_X4_liveDays at hf
  have hfr : ∀ id : Nat, (id < h ∨ h + 11 ≤ id) → M id = M id := fun _ _ => rfl
  refine mt_lpI3 hf (fun (x1 : Int32) (x2 : Int32) (M3 : mt_M) => (∀ id : Nat, (id < h ∨ h + 11 ≤ id) → M3 id = M id) → ∀ id : Nat, (id < h ∨ h + 11 ≤ id) → (M') id = M id) ?_ hfr
  intro k4 ih5 x1 x2 M3 hf hfr
  by_cases c6 : a1 ≤ x2
  · have hf := mt_ifT c6 hf
    obtain ⟨i1, i2⟩ := mt_so2 hf
    subst i1
    subst i2
    exact hfr
  · have hf := mt_ifF c6 hf
    refine mt_ltI hf (fun M7 eM7 hf => ?_)
    have hfr : ∀ id : Nat, (id < h ∨ h + 11 ≤ id) → M7 id = M id := fun id hid => (by rw [eM7]; exact mt_mu_ne (by omega) : M7 id = M3 id).trans (hfr id hid)
    refine mt_b2I hf (fun r9 M10 hg8 hf => ?_)
    have hfr : ∀ id : Nat, (id < h ∨ h + 11 ≤ id) → M10 id = M id := fun id hid => (fr_X0_liveDay (h + 3) M7 hg8 id (by omega)).trans (hfr id hid)
    refine mt_ltI hf (fun x11 _ hf => ?_)
    refine mt_ltI hf (fun x12 _ hf => ?_)
    exact ih5 x11 x12 M10 hf hfr
set_option maxHeartbeats 4000000 in
set_option maxRecDepth 100000 in
theorem fr_X4_joinLists (h : Nat) (M : mt_M) {r : Int32} {M' : mt_M} (hf : f_X4_joinLists h M = some (r, M')) : ∀ id : Nat, (id < h ∨ h + 11 ≤ id) → (M') id = M id := by
  unfold f_X4_joinLists at hf
  have hfr : ∀ id : Nat, (id < h ∨ h + 11 ≤ id) → M id = M id := fun _ _ => rfl
  refine mt_b1I hf (fun r2 hg1 hf => ?_)
  refine mt_b1I hf (fun r4 hg3 hf => ?_)
  refine mt_b1I hf (fun r6 hg5 hf => ?_)
  refine mt_ltI hf (fun x7 _ hf => ?_)
  refine mt_ltI hf (fun M8 eM8 hf => ?_)
  have hfr : ∀ id : Nat, (id < h ∨ h + 11 ≤ id) → M8 id = M id := fun id hid => (by rw [eM8]; exact mt_mu_ne (by omega) : M8 id = M id).trans (hfr id hid)
  refine mt_ltI hf (fun M9 eM9 hf => ?_)
  have hfr : ∀ id : Nat, (id < h ∨ h + 11 ≤ id) → M9 id = M id := fun id hid => (by rw [eM9]; exact mt_mu_ne (by omega) : M9 id = M8 id).trans (hfr id hid)
  refine mt_lpI2 hf (fun (x10 : Int32) (M11 : mt_M) => (∀ id : Nat, (id < h ∨ h + 11 ≤ id) → M11 id = M id) → ∀ id : Nat, (id < h ∨ h + 11 ≤ id) → (M') id = M id) ?_ hfr
  intro k12 ih13 x10 M11 hf hfr
  by_cases c14 : (7 : Int32) ≤ x10
  · have hf := mt_ifT c14 hf
    obtain ⟨i1, i2⟩ := mt_so2 hf
    subst i1
    subst i2
    exact hfr
  · have hf := mt_ifF c14 hf
    refine mt_ciI hf (fun _ hf => ?_)
    refine mt_ciI hf (fun _ hf => ?_)
    refine mt_ltI hf (fun x17 _ hf => ?_)
    refine mt_ciI hf (fun _ hf => ?_)
    refine mt_ltI hf (fun M18 eM18 hf => ?_)
    have hfr : ∀ id : Nat, (id < h ∨ h + 11 ≤ id) → M18 id = M id := fun id hid => (by rw [eM18]; exact mt_mu_ne (by omega) : M18 id = M11 id).trans (hfr id hid)
    refine mt_ciI hf (fun _ hf => ?_)
    refine mt_ltI hf (fun M20 eM20 hf => ?_)
    have hfr : ∀ id : Nat, (id < h ∨ h + 11 ≤ id) → M20 id = M id := fun id hid => (by rw [eM20]; exact mt_mu_ne (by omega) : M20 id = M18 id).trans (hfr id hid)
    refine mt_ltI hf (fun x22 _ hf => ?_)
    exact ih13 x22 M20 hf hfr
set_option maxHeartbeats 4000000 in
set_option maxRecDepth 100000 in
theorem fr_X3_keep (o1 : Nat) (M : mt_M) {M' : mt_M} (hf : f_X3_keep o1 M = some (M')) : ∀ id : Nat, (id < 43 ∨ 133 ≤ id) → (M') id = M id := by
  unfold f_X3_keep at hf
  have hfr : ∀ id : Nat, (id < 43 ∨ 133 ≤ id) → M id = M id := fun _ _ => rfl
  refine mt_ciI hf (fun q1 hf => ?_)
  refine mt_ltI hf (fun g2 eg2 hf => ?_)
  have rg2 : 45 ≤ g2 ∧ g2 ≤ 122 := mt_hou_rng q1 eg2
  refine mt_b1I hf (fun M4 hg3 hf => ?_)
  have hfr : ∀ id : Nat, (id < 43 ∨ 133 ≤ id) → M4 id = M id := fun id hid => (fr_X4_become g2 o1 M hg3 id (by omega)).trans (hfr id hid)
  refine mt_ltI hf (fun M5 eM5 hf => ?_)
  have hfr : ∀ id : Nat, (id < 43 ∨ 133 ≤ id) → M5 id = M id := fun id hid => (by rw [eM5]; exact mt_mu_ne (by omega) : M5 id = M4 id).trans (hfr id hid)
  refine mt_ltI hf (fun x6 _ hf => ?_)
  refine mt_ltI hf (fun M7 eM7 hf => ?_)
  have hfr : ∀ id : Nat, (id < 43 ∨ 133 ≤ id) → M7 id = M id := fun id hid => (by rw [eM7]; exact mt_mu_ne (by omega) : M7 id = M5 id).trans (hfr id hid)
  have i1 := mt_so1 hf
  subst i1
  exact hfr
set_option maxHeartbeats 4000000 in
set_option maxRecDepth 100000 in
theorem fr_X3_takeBack (o1 : Nat) (M : mt_M) {r : Int32} {M' : mt_M} (hf : f_X3_takeBack o1 M = some (r, M')) : ∀ id : Nat, ((id < 43 ∨ 133 ≤ id) ∧ (id < o1 ∨ o1 + 11 ≤ id)) → (M') id = M id := by
  unfold f_X3_takeBack at hf
  have hfr : ∀ id : Nat, ((id < 43 ∨ 133 ≤ id) ∧ (id < o1 ∨ o1 + 11 ≤ id)) → M id = M id := fun _ _ => rfl
  by_cases c1 : (M 43 2) ≤ 0
  · have hf := mt_ifT c1 hf
    obtain ⟨i1, i2⟩ := mt_so2 hf
    subst i1
    subst i2
    exact hfr
  · have hf := mt_ifF c1 hf
    refine mt_ltI hf (fun M2 eM2 hf => ?_)
    have hfr : ∀ id : Nat, ((id < 43 ∨ 133 ≤ id) ∧ (id < o1 ∨ o1 + 11 ≤ id)) → M2 id = M id := fun id hid => (by rw [eM2]; exact mt_mu_ne (by omega) : M2 id = M id).trans (hfr id hid)
    refine mt_ltI hf (fun M3 eM3 hf => ?_)
    have hfr : ∀ id : Nat, ((id < 43 ∨ 133 ≤ id) ∧ (id < o1 ∨ o1 + 11 ≤ id)) → M3 id = M id := fun id hid => (by rw [eM3]; exact mt_mu_ne (by omega) : M3 id = M2 id).trans (hfr id hid)
    refine mt_ciI hf (fun q4 hf => ?_)
    refine mt_ltI hf (fun g5 eg5 hf => ?_)
    have rg5 : 45 ≤ g5 ∧ g5 ≤ 122 := mt_hou_rng q4 eg5
    refine mt_b1I hf (fun M7 hg6 hf => ?_)
    have hfr : ∀ id : Nat, ((id < 43 ∨ 133 ≤ id) ∧ (id < o1 ∨ o1 + 11 ≤ id)) → M7 id = M id := fun id hid => (fr_X4_become o1 g5 M3 hg6 id (by omega)).trans (hfr id hid)
    obtain ⟨i1, i2⟩ := mt_so2 hf
    subst i1
    subst i2
    exact hfr
set_option maxHeartbeats 4000000 in
set_option maxRecDepth 100000 in
theorem fr_X3_forget (M : mt_M) {M' : mt_M} (hf : f_X3_forget M = some (M')) : ∀ id : Nat, (id < 43 ∨ 133 ≤ id) → (M') id = M id := by
  unfold f_X3_forget at hf
  have hfr : ∀ id : Nat, (id < 43 ∨ 133 ≤ id) → M id = M id := fun _ _ => rfl
  refine mt_ltI hf (fun M1 eM1 hf => ?_)
  have hfr : ∀ id : Nat, (id < 43 ∨ 133 ≤ id) → M1 id = M id := fun id hid => (by rw [eM1]; exact mt_mu_ne (by omega) : M1 id = M id).trans (hfr id hid)
  have i1 := mt_so1 hf
  subst i1
  exact hfr
set_option maxHeartbeats 4000000 in
set_option maxRecDepth 100000 in
theorem fr_X7_add (a1 : Int32) (M : mt_M) {r : Int32} {M' : mt_M} (hf : f_X7_add a1 M = some (r, M')) : ∀ id : Nat, (id < 145 ∨ 147 ≤ id) → (M') id = M id := by
  unfold f_X7_add at hf
  have hfr : ∀ id : Nat, (id < 145 ∨ 147 ≤ id) → M id = M id := fun _ _ => rfl
  refine mt_b1I hf (fun r2 hg1 hf => ?_)
  by_cases c3 : r2 = 0
  · have hf := mt_ifT c3 hf
    refine mt_ciI hf (fun _ hf => ?_)
    refine mt_ltI hf (fun M4 eM4 hf => ?_)
    have hfr : ∀ id : Nat, (id < 145 ∨ 147 ≤ id) → M4 id = M id := fun id hid => (by rw [eM4]; exact mt_mu_ne (by omega) : M4 id = M id).trans (hfr id hid)
    refine mt_ltI hf (fun M6 eM6 hf => ?_)
    have hfr : ∀ id : Nat, (id < 145 ∨ 147 ≤ id) → M6 id = M id := fun id hid => (by rw [eM6]; exact mt_mu_ne (by omega) : M6 id = M4 id).trans (hfr id hid)
    obtain ⟨i1, i2⟩ := mt_so2 hf
    subst i1
    subst i2
    exact hfr
  · have hf := mt_ifF c3 hf
    obtain ⟨i1, i2⟩ := mt_so2 hf
    subst i1
    subst i2
    exact hfr
set_option maxHeartbeats 4000000 in
set_option maxRecDepth 100000 in
theorem fr_X7_wipe (M : mt_M) {M' : mt_M} (hf : f_X7_wipe M = some (M')) : ∀ id : Nat, (id < 145 ∨ 147 ≤ id) → (M') id = M id := by
  unfold f_X7_wipe at hf
  have hfr : ∀ id : Nat, (id < 145 ∨ 147 ≤ id) → M id = M id := fun _ _ => rfl
  refine mt_ltI hf (fun M1 eM1 hf => ?_)
  have hfr : ∀ id : Nat, (id < 145 ∨ 147 ≤ id) → M1 id = M id := fun id hid => (by rw [eM1]; exact mt_mu_ne (by omega) : M1 id = M id).trans (hfr id hid)
  have i1 := mt_so1 hf
  subst i1
  exact hfr
set_option maxHeartbeats 4000000 in
set_option maxRecDepth 100000 in
theorem fr_X7_comesTrue (o1 : Nat) (a2 : Int32) (M : mt_M) {r : Int32} {M' : mt_M} (hf : f_X7_comesTrue o1 a2 M = some (r, M')) : ∀ id : Nat, (id < o1 ∨ o1 + 11 ≤ id) → (M') id = M id := by
  unfold f_X7_comesTrue at hf
  have hfr : ∀ id : Nat, (id < o1 ∨ o1 + 11 ≤ id) → M id = M id := fun _ _ => rfl
  refine mt_b1I hf (fun r2 hg1 hf => ?_)
  refine mt_b1I hf (fun r4 hg3 hf => ?_)
  by_cases c5 : r4 = (100 : Int32)
  · have hf := mt_ifT c5 hf
    refine mt_b2I hf (fun r7 M8 hg6 hf => ?_)
    have hfr : ∀ id : Nat, (id < o1 ∨ o1 + 11 ≤ id) → M8 id = M id := fun id hid => (fr_X4_liveDays o1 r2 M hg6 id (by omega)).trans (hfr id hid)
    by_cases c9 : (999 : Int32) < (M8 o1 4)
    · have hf := mt_ifT c9 hf
      obtain ⟨i1, i2⟩ := mt_so2 hf
      subst i1
      subst i2
      exact hfr
    · have hf := mt_ifF c9 hf
      obtain ⟨i1, i2⟩ := mt_so2 hf
      subst i1
      subst i2
      exact hfr
  · have hf := mt_ifF c5 hf
    by_cases c10 : r4 = (106 : Int32)
    · have hf := mt_ifT c10 hf
      refine mt_b2I hf (fun r12 M13 hg11 hf => ?_)
      have hfr : ∀ id : Nat, (id < o1 ∨ o1 + 11 ≤ id) → M13 id = M id := fun id hid => (fr_X4_joinLists o1 M hg11 id (by omega)).trans (hfr id hid)
      obtain ⟨i1, i2⟩ := mt_so2 hf
      subst i1
      subst i2
      exact hfr
    · have hf := mt_ifF c10 hf
      by_cases c14 : r4 = (114 : Int32)
      · have hf := mt_ifT c14 hf
        refine mt_ltI hf (fun M15 eM15 hf => ?_)
        have hfr : ∀ id : Nat, (id < o1 ∨ o1 + 11 ≤ id) → M15 id = M id := fun id hid => (by rw [eM15]; exact mt_mu_ne (by omega) : M15 id = M id).trans (hfr id hid)
        refine mt_b1I hf (fun r17 hg16 hf => ?_)
        refine mt_ckI hf (fun _ hf => ?_)
        obtain ⟨i1, i2⟩ := mt_so2 hf
        subst i1
        subst i2
        exact hfr
      · have hf := mt_ifF c14 hf
        by_cases c19 : r4 = (115 : Int32)
        · have hf := mt_ifT c19 hf
          refine mt_b1I hf (fun r21 hg20 hf => ?_)
          refine mt_b1I hf (fun r23 hg22 hf => ?_)
          refine mt_b1I hf (fun M25 hg24 hf => ?_)
          have hfr : ∀ id : Nat, (id < o1 ∨ o1 + 11 ≤ id) → M25 id = M id := fun id hid => (fr_X0_putStock (o1 + 3) r2 (((10 : Int32) * r21) + r23) M hg24 id (by omega)).trans (hfr id hid)
          refine mt_b1I hf (fun r27 hg26 hf => ?_)
          refine mt_ckI hf (fun _ hf => ?_)
          obtain ⟨i1, i2⟩ := mt_so2 hf
          subst i1
          subst i2
          exact hfr
        · have hf := mt_ifF c19 hf
          by_cases c29 : r4 = (116 : Int32)
          · have hf := mt_ifT c29 hf
            refine mt_b1I hf (fun r31 hg30 hf => ?_)
            refine mt_b1I hf (fun r33 hg32 hf => ?_)
            refine mt_b2I hf (fun r35 M36 hg34 hf => ?_)
            have hfr : ∀ id : Nat, (id < o1 ∨ o1 + 11 ≤ id) → M36 id = M id := fun id hid => (fr_X0_add (o1 + 3) r2 r31 r33 M hg34 id (by omega)).trans (hfr id hid)
            by_cases c37 : r35 < 0
            · have hf := mt_ifT c37 hf
              obtain ⟨i1, i2⟩ := mt_so2 hf
              subst i1
              subst i2
              exact hfr
            · have hf := mt_ifF c37 hf
              obtain ⟨i1, i2⟩ := mt_so2 hf
              subst i1
              subst i2
              exact hfr
          · have hf := mt_ifF c29 hf
            refine mt_b1I hf (fun r39 hg38 hf => ?_)
            refine mt_b1I hf (fun r41 hg40 hf => ?_)
            refine mt_b2I hf (fun r43 M44 hg42 hf => ?_)
            have hfr : ∀ id : Nat, (id < o1 ∨ o1 + 11 ≤ id) → M44 id = M id := fun id hid => (fr_X4_markLine o1 r2 r39 r41 M hg42 id (by omega)).trans (hfr id hid)
            by_cases c45 : r43 = 0
            · have hf := mt_ifT c45 hf
              obtain ⟨i1, i2⟩ := mt_so2 hf
              subst i1
              subst i2
              exact hfr
            · have hf := mt_ifF c45 hf
              obtain ⟨i1, i2⟩ := mt_so2 hf
              subst i1
              subst i2
              exact hfr
set_option maxHeartbeats 4000000 in
set_option maxRecDepth 100000 in
theorem fr_X7_tell (o1 : Nat) (o2 : Nat) (M : mt_M) {r : Int32} {M' : mt_M} (hf : f_X7_tell o1 o2 M = some (r, M')) : ∀ id : Nat, (id < o2 ∨ o2 + 11 ≤ id) → (M') id = M id := by
  unfold f_X7_tell at hf
  have hfr : ∀ id : Nat, (id < o2 ∨ o2 + 11 ≤ id) → M id = M id := fun _ _ => rfl
  refine mt_b1I hf (fun r2 hg1 hf => ?_)
  by_cases c3 : r2 < 0
  · have hf := mt_ifT c3 hf
    refine mt_b1I hf (fun M5 hg4 hf => ?_)
    have hfr : ∀ id : Nat, (id < o2 ∨ o2 + 11 ≤ id) → M5 id = M id := fun id hid => (fr_X4_become o2 o1 M hg4 id (by omega)).trans (hfr id hid)
    refine mt_lpI3 hf (fun (x6 : Int32) (x7 : Int32) (M8 : mt_M) => (∀ id : Nat, (id < o2 ∨ o2 + 11 ≤ id) → M8 id = M id) → ∀ id : Nat, (id < o2 ∨ o2 + 11 ≤ id) → (M') id = M id) ?_ hfr
    intro k9 ih10 x6 x7 M8 hf hfr
    by_cases c11 : (M8 145 1) ≤ x7
    · have hf := mt_ifT c11 hf
      obtain ⟨i1, i2⟩ := mt_so2 hf
      subst i1
      subst i2
      exact hfr
    · have hf := mt_ifF c11 hf
      refine mt_b2I hf (fun r13 M14 hg12 hf => ?_)
      have hfr : ∀ id : Nat, (id < o2 ∨ o2 + 11 ≤ id) → M14 id = M id := fun id hid => (fr_X7_comesTrue o2 x7 M8 hg12 id (by omega)).trans (hfr id hid)
      by_cases c15 : r13 = 0
      · have hf := mt_ifT c15 hf
        obtain ⟨i1, i2⟩ := mt_so2 hf
        subst i1
        subst i2
        exact hfr
      · have hf := mt_ifF c15 hf
        refine mt_ltI hf (fun x16 _ hf => ?_)
        refine mt_b1I hf (fun r18 hg17 hf => ?_)
        refine mt_b1I hf (fun r20 hg19 hf => ?_)
        refine mt_ltI hf (fun x21 _ hf => ?_)
        exact ih10 x16 x21 M14 hf hfr
  · have hf := mt_ifF c3 hf
    obtain ⟨i1, i2⟩ := mt_so2 hf
    subst i1
    subst i2
    exact hfr
set_option maxHeartbeats 4000000 in
set_option maxRecDepth 100000 in
theorem fr_X8_begin (M : mt_M) {M' : mt_M} (hf : f_X8_begin M = some (M')) : ∀ id : Nat, (id < 134 ∨ 145 ≤ id) → (M') id = M id := by
  unfold f_X8_begin at hf
  have hfr : ∀ id : Nat, (id < 134 ∨ 145 ≤ id) → M id = M id := fun _ _ => rfl
  refine mt_b1I hf (fun M2 hg1 hf => ?_)
  have hfr : ∀ id : Nat, (id < 134 ∨ 145 ≤ id) → M2 id = M id := fun id hid => (fr_X0_become 137 13 M hg1 id (by omega)).trans (hfr id hid)
  refine mt_b1I hf (fun M4 hg3 hf => ?_)
  have hfr : ∀ id : Nat, (id < 134 ∨ 145 ≤ id) → M4 id = M id := fun id hid => (fr_X0_forgetTallies 137 M2 hg3 id (by omega)).trans (hfr id hid)
  have i1 := mt_so1 hf
  subst i1
  exact hfr
set_option maxHeartbeats 4000000 in
set_option maxRecDepth 100000 in
theorem fr_X8_liveDays (a1 : Int32) (M : mt_M) {M' : mt_M} (hf : f_X8_liveDays a1 M = some (M')) : ∀ id : Nat, (id < 134 ∨ 145 ≤ id) → (M') id = M id := by
  unfold f_X8_liveDays at hf
  have hfr : ∀ id : Nat, (id < 134 ∨ 145 ≤ id) → M id = M id := fun _ _ => rfl
  refine mt_lpI2 hf (fun (x1 : Int32) (M2 : mt_M) => (∀ id : Nat, (id < 134 ∨ 145 ≤ id) → M2 id = M id) → ∀ id : Nat, (id < 134 ∨ 145 ≤ id) → (M') id = M id) ?_ hfr
  intro k3 ih4 x1 M2 hf hfr
  by_cases c5 : a1 ≤ x1
  · have hf := mt_ifT c5 hf
    have i1 := mt_so1 hf
    subst i1
    exact hfr
  · have hf := mt_ifF c5 hf
    refine mt_b2I hf (fun r7 M8 hg6 hf => ?_)
    have hfr : ∀ id : Nat, (id < 134 ∨ 145 ≤ id) → M8 id = M id := fun id hid => (fr_X0_liveDay 137 M2 hg6 id (by omega)).trans (hfr id hid)
    refine mt_ltI hf (fun x9 _ hf => ?_)
    exact ih4 x9 M8 hf hfr
set_option maxHeartbeats 4000000 in
set_option maxRecDepth 100000 in
theorem fr_X8_liveDaysOf (a1 : Int32) (a2 : Int32) (a3 : Int32) (M : mt_M) {M' : mt_M} (hf : f_X8_liveDaysOf a1 a2 a3 M = some (M')) : ∀ id : Nat, (id < 134 ∨ 145 ≤ id) → (M') id = M id := by
  unfold f_X8_liveDaysOf at hf
  have hfr : ∀ id : Nat, (id < 134 ∨ 145 ≤ id) → M id = M id := fun _ _ => rfl
  refine mt_b1I hf (fun M2 hg1 hf => ?_)
  have hfr : ∀ id : Nat, (id < 134 ∨ 145 ≤ id) → M2 id = M id := fun id hid => (fr_X8_begin M hg1 id (by omega)).trans (hfr id hid)
  refine mt_b1I hf (fun M4 hg3 hf => ?_)
  have hfr : ∀ id : Nat, (id < 134 ∨ 145 ≤ id) → M4 id = M id := fun id hid => (fr_X0_putStock 137 a1 a2 M2 hg3 id (by omega)).trans (hfr id hid)
  refine mt_lpI2 hf (fun (x5 : Int32) (M6 : mt_M) => (∀ id : Nat, (id < 134 ∨ 145 ≤ id) → M6 id = M id) → ∀ id : Nat, (id < 134 ∨ 145 ≤ id) → (M') id = M id) ?_ hfr
  intro k7 ih8 x5 M6 hf hfr
  by_cases c9 : a3 ≤ x5
  · have hf := mt_ifT c9 hf
    have i1 := mt_so1 hf
    subst i1
    exact hfr
  · have hf := mt_ifF c9 hf
    refine mt_b2I hf (fun r11 M12 hg10 hf => ?_)
    have hfr : ∀ id : Nat, (id < 134 ∨ 145 ≤ id) → M12 id = M id := fun id hid => (fr_X0_liveDayOf 137 a1 M6 hg10 id (by omega)).trans (hfr id hid)
    refine mt_ltI hf (fun x13 _ hf => ?_)
    exact ih8 x13 M12 hf hfr
set_option maxHeartbeats 4000000 in
set_option maxRecDepth 100000 in
theorem fr_X8_stockBehind (a1 : Int32) (a2 : Int32) (M : mt_M) {r : Int32} {M' : mt_M} (hf : f_X8_stockBehind a1 a2 M = some (r, M')) : ∀ id : Nat, (id < 134 ∨ 145 ≤ id) → (M') id = M id := by
  unfold f_X8_stockBehind at hf
  have hfr : ∀ id : Nat, (id < 134 ∨ 145 ≤ id) → M id = M id := fun _ _ => rfl
  refine mt_b1I hf (fun r2 hg1 hf => ?_)
  refine mt_b1I hf (fun M4 hg3 hf => ?_)
  have hfr : ∀ id : Nat, (id < 134 ∨ 145 ≤ id) → M4 id = M id := fun id hid => (fr_X8_liveDaysOf a1 r2 a2 M hg3 id (by omega)).trans (hfr id hid)
  refine mt_b1I hf (fun r6 hg5 hf => ?_)
  obtain ⟨i1, i2⟩ := mt_so2 hf
  subst i1
  subst i2
  exact hfr
set_option maxHeartbeats 4000000 in
set_option maxRecDepth 100000 in
theorem fr_X8_lackedIn (a1 : Int32) (M : mt_M) {r : Int32} {M' : mt_M} (hf : f_X8_lackedIn a1 M = some (r, M')) : ∀ id : Nat, (id < 134 ∨ 145 ≤ id) → (M') id = M id := by
  unfold f_X8_lackedIn at hf
  have hfr : ∀ id : Nat, (id < 134 ∨ 145 ≤ id) → M id = M id := fun _ _ => rfl
  refine mt_b1I hf (fun M2 hg1 hf => ?_)
  have hfr : ∀ id : Nat, (id < 134 ∨ 145 ≤ id) → M2 id = M id := fun id hid => (fr_X8_begin M hg1 id (by omega)).trans (hfr id hid)
  refine mt_b1I hf (fun M4 hg3 hf => ?_)
  have hfr : ∀ id : Nat, (id < 134 ∨ 145 ≤ id) → M4 id = M id := fun id hid => (fr_X8_liveDays a1 M2 hg3 id (by omega)).trans (hfr id hid)
  obtain ⟨i1, i2⟩ := mt_so2 hf
  subst i1
  subst i2
  exact hfr
set_option maxHeartbeats 4000000 in
set_option maxRecDepth 100000 in
theorem fr_X8_spoiltIn (a1 : Int32) (M : mt_M) {r : Int32} {M' : mt_M} (hf : f_X8_spoiltIn a1 M = some (r, M')) : ∀ id : Nat, (id < 134 ∨ 145 ≤ id) → (M') id = M id := by
  unfold f_X8_spoiltIn at hf
  have hfr : ∀ id : Nat, (id < 134 ∨ 145 ≤ id) → M id = M id := fun _ _ => rfl
  refine mt_b1I hf (fun M2 hg1 hf => ?_)
  have hfr : ∀ id : Nat, (id < 134 ∨ 145 ≤ id) → M2 id = M id := fun id hid => (fr_X8_begin M hg1 id (by omega)).trans (hfr id hid)
  refine mt_b1I hf (fun M4 hg3 hf => ?_)
  have hfr : ∀ id : Nat, (id < 134 ∨ 145 ≤ id) → M4 id = M id := fun id hid => (fr_X8_liveDays a1 M2 hg3 id (by omega)).trans (hfr id hid)
  obtain ⟨i1, i2⟩ := mt_so2 hf
  subst i1
  subst i2
  exact hfr
set_option maxHeartbeats 4000000 in
set_option maxRecDepth 100000 in
theorem fr_X8_firstDayWithout (a1 : Int32) (M : mt_M) {r : Int32} {M' : mt_M} (hf : f_X8_firstDayWithout a1 M = some (r, M')) : ∀ id : Nat, (id < 134 ∨ 145 ≤ id) → (M') id = M id := by
  unfold f_X8_firstDayWithout at hf
  have hfr : ∀ id : Nat, (id < 134 ∨ 145 ≤ id) → M id = M id := fun _ _ => rfl
  refine mt_b1I hf (fun M2 hg1 hf => ?_)
  have hfr : ∀ id : Nat, (id < 134 ∨ 145 ≤ id) → M2 id = M id := fun id hid => (fr_X8_begin M hg1 id (by omega)).trans (hfr id hid)
  refine mt_lpI2 hf (fun (x3 : Int32) (M4 : mt_M) => (∀ id : Nat, (id < 134 ∨ 145 ≤ id) → M4 id = M id) → ∀ id : Nat, (id < 134 ∨ 145 ≤ id) → (M') id = M id) ?_ hfr
  intro k5 ih6 x3 M4 hf hfr
  by_cases c7 : (60 : Int32) < x3
  · have hf := mt_ifT c7 hf
    obtain ⟨i1, i2⟩ := mt_so2 hf
    subst i1
    subst i2
    exact hfr
  · have hf := mt_ifF c7 hf
    refine mt_b2I hf (fun r9 M10 hg8 hf => ?_)
    have hfr : ∀ id : Nat, (id < 134 ∨ 145 ≤ id) → M10 id = M id := fun id hid => (fr_X0_liveDayOf 137 a1 M4 hg8 id (by omega)).trans (hfr id hid)
    by_cases c11 : r9 ≤ 0
    · have hf := mt_ifT c11 hf
      refine mt_ltI hf (fun x12 _ hf => ?_)
      exact ih6 x12 M10 hf hfr
    · have hf := mt_ifF c11 hf
      obtain ⟨i1, i2⟩ := mt_so2 hf
      subst i1
      subst i2
      exact hfr
set_option maxHeartbeats 4000000 in
set_option maxRecDepth 100000 in
theorem fr_X8_firstThingOut (M : mt_M) {r : Int32} {M' : mt_M} (hf : f_X8_firstThingOut M = some (r, M')) : ∀ id : Nat, (id < 134 ∨ 145 ≤ id) → (M') id = M id := by
  unfold f_X8_firstThingOut at hf
  have hfr : ∀ id : Nat, (id < 134 ∨ 145 ≤ id) → M id = M id := fun _ _ => rfl
  refine mt_lpI4 hf (fun (x1 : Int32) (x2 : Int32) (x3 : Int32) (M4 : mt_M) => (∀ id : Nat, (id < 134 ∨ 145 ≤ id) → M4 id = M id) → ∀ id : Nat, (id < 134 ∨ 145 ≤ id) → (M') id = M id) ?_ hfr
  intro k5 ih6 x1 x2 x3 M4 hf hfr
  by_cases c7 : (M4 13 8) ≤ x3
  · have hf := mt_ifT c7 hf
    obtain ⟨i1, i2⟩ := mt_so2 hf
    subst i1
    subst i2
    exact hfr
  · have hf := mt_ifF c7 hf
    refine mt_b2I hf (fun r9 M10 hg8 hf => ?_)
    have hfr : ∀ id : Nat, (id < 134 ∨ 145 ≤ id) → M10 id = M id := fun id hid => (fr_X8_firstDayWithout x3 M4 hg8 id (by omega)).trans (hfr id hid)
    refine mt_jn2 hf (fun (x11 : Int32) (x12 : Int32) => (∀ id : Nat, (id < 134 ∨ 145 ≤ id) → M10 id = M id) → ∀ id : Nat, (id < 134 ∨ 145 ≤ id) → (M') id = M id) ?_ ?_
    · intro x11 x12 hf hfr
      refine mt_ltI hf (fun x15 _ hf => ?_)
      exact ih6 x11 x12 x15 M10 hf hfr
    · intro j13 hj14 hf
      by_cases c16 : r9 = (-9 : Int32)
      · have hf := mt_ifT c16 hf
        exact hj14 x1 x2 hf hfr
      · have hf := mt_ifF c16 hf
        by_cases c17 : x2 ≤ r9
        · have hf := mt_ifT c17 hf
          exact hj14 x1 x2 hf hfr
        · have hf := mt_ifF c17 hf
          exact hj14 x3 r9 hf hfr
set_option maxHeartbeats 4000000 in
set_option maxRecDepth 100000 in
theorem fr_X8_firstDayWithoutSome (a1 : Int32) (M : mt_M) {r : Int32} {M' : mt_M} (hf : f_X8_firstDayWithoutSome a1 M = some (r, M')) : ∀ id : Nat, (id < 134 ∨ 145 ≤ id) → (M') id = M id := by
  unfold f_X8_firstDayWithoutSome at hf
  have hfr : ∀ id : Nat, (id < 134 ∨ 145 ≤ id) → M id = M id := fun _ _ => rfl
  refine mt_b1I hf (fun M2 hg1 hf => ?_)
  have hfr : ∀ id : Nat, (id < 134 ∨ 145 ≤ id) → M2 id = M id := fun id hid => (fr_X8_begin M hg1 id (by omega)).trans (hfr id hid)
  refine mt_lpI2 hf (fun (x3 : Int32) (M4 : mt_M) => (∀ id : Nat, (id < 134 ∨ 145 ≤ id) → M4 id = M id) → ∀ id : Nat, (id < 134 ∨ 145 ≤ id) → (M') id = M id) ?_ hfr
  intro k5 ih6 x3 M4 hf hfr
  by_cases c7 : (60 : Int32) < x3
  · have hf := mt_ifT c7 hf
    obtain ⟨i1, i2⟩ := mt_so2 hf
    subst i1
    subst i2
    exact hfr
  · have hf := mt_ifF c7 hf
    refine mt_lpI3 hf (fun (x8 : Int32) (x9 : Int32) (M10 : mt_M) => (∀ id : Nat, (id < 134 ∨ 145 ≤ id) → M10 id = M id) → ∀ id : Nat, (id < 134 ∨ 145 ≤ id) → (M') id = M id) ?_ hfr
    intro k11 ih12 x8 x9 M10 hf hfr
    by_cases c13 : (M10 137 8) ≤ x9
    · have hf := mt_ifT c13 hf
      by_cases c14 : x8 < a1
      · have hf := mt_ifT c14 hf
        refine mt_ltI hf (fun x15 _ hf => ?_)
        exact ih6 x15 M10 hf hfr
      · have hf := mt_ifF c14 hf
        obtain ⟨i1, i2⟩ := mt_so2 hf
        subst i1
        subst i2
        exact hfr
    · have hf := mt_ifF c13 hf
      refine mt_b2I hf (fun r17 M18 hg16 hf => ?_)
      have hfr : ∀ id : Nat, (id < 134 ∨ 145 ≤ id) → M18 id = M id := fun id hid => (fr_X0_liveDayOf 137 x9 M10 hg16 id (by omega)).trans (hfr id hid)
      refine mt_jn1 hf (fun (v19 : Int32) => (∀ id : Nat, (id < 134 ∨ 145 ≤ id) → M18 id = M id) → ∀ id : Nat, (id < 134 ∨ 145 ≤ id) → (M') id = M id) ?_ ?_
      · intro v19 hf hfr
        refine mt_ltI hf (fun x22 _ hf => ?_)
        refine mt_ltI hf (fun x23 _ hf => ?_)
        exact ih12 x22 x23 M18 hf hfr
      · intro j20 hj21 hf
        by_cases c24 : r17 ≤ 0
        · have hf := mt_ifT c24 hf
          exact hj21 (0 : Int32) hf hfr
        · have hf := mt_ifF c24 hf
          exact hj21 (1 : Int32) hf hfr
set_option maxHeartbeats 4000000 in
set_option maxRecDepth 100000 in
theorem fr_X8_packsFor (a1 : Int32) (a2 : Int32) (M : mt_M) {r : Int32} {M' : mt_M} (hf : f_X8_packsFor a1 a2 M = some (r, M')) : ∀ id : Nat, (id < 134 ∨ 145 ≤ id) → (M') id = M id := by
  unfold f_X8_packsFor at hf
  have hfr : ∀ id : Nat, (id < 134 ∨ 145 ≤ id) → M id = M id := fun _ _ => rfl
  refine mt_lpI2 hf (fun (x1 : Int32) (M2 : mt_M) => (∀ id : Nat, (id < 134 ∨ 145 ≤ id) → M2 id = M id) → ∀ id : Nat, (id < 134 ∨ 145 ≤ id) → (M') id = M id) ?_ hfr
  intro k3 ih4 x1 M2 hf hfr
  by_cases c5 : (20 : Int32) < x1
  · have hf := mt_ifT c5 hf
    obtain ⟨i1, i2⟩ := mt_so2 hf
    subst i1
    subst i2
    exact hfr
  · have hf := mt_ifF c5 hf
    refine mt_b1I hf (fun r7 hg6 hf => ?_)
    refine mt_b1I hf (fun M9 hg8 hf => ?_)
    have hfr : ∀ id : Nat, (id < 134 ∨ 145 ≤ id) → M9 id = M id := fun id hid => (fr_X8_liveDaysOf a1 r7 a2 M2 hg8 id (by omega)).trans (hfr id hid)
    by_cases c10 : (M9 137 10) = 0
    · have hf := mt_ifT c10 hf
      obtain ⟨i1, i2⟩ := mt_so2 hf
      subst i1
      subst i2
      exact hfr
    · have hf := mt_ifF c10 hf
      refine mt_ltI hf (fun x11 _ hf => ?_)
      exact ih4 x11 M9 hf hfr
set_option maxHeartbeats 4000000 in
set_option maxRecDepth 100000 in
theorem fr_X8_noteCosts (a1 : Int32) (M : mt_M) {M' : mt_M} (hf : f_X8_noteCosts a1 M = some (M')) : ∀ id : Nat, (id < 134 ∨ 145 ≤ id) → (M') id = M id := by
  unfold f_X8_noteCosts at hf
  have hfr : ∀ id : Nat, (id < 134 ∨ 145 ≤ id) → M id = M id := fun _ _ => rfl
  refine mt_lpI2 hf (fun (x1 : Int32) (M2 : mt_M) => (∀ id : Nat, (id < 134 ∨ 145 ≤ id) → M2 id = M id) → ∀ id : Nat, (id < 134 ∨ 145 ≤ id) → (M') id = M id) ?_ hfr
  intro k3 ih4 x1 M2 hf hfr
  by_cases c5 : (M2 13 8) ≤ x1
  · have hf := mt_ifT c5 hf
    have i1 := mt_so1 hf
    subst i1
    exact hfr
  · have hf := mt_ifF c5 hf
    refine mt_b2I hf (fun r7 M8 hg6 hf => ?_)
    have hfr : ∀ id : Nat, (id < 134 ∨ 145 ≤ id) → M8 id = M id := fun id hid => (fr_X8_packsFor x1 a1 M2 hg6 id (by omega)).trans (hfr id hid)
    refine mt_jn1 hf (fun (v9 : Int32) => (∀ id : Nat, (id < 134 ∨ 145 ≤ id) → M8 id = M id) → ∀ id : Nat, (id < 134 ∨ 145 ≤ id) → (M') id = M id) ?_ ?_
    · intro v9 hf hfr
      refine mt_ciI hf (fun _ hf => ?_)
      refine mt_ltI hf (fun M12 eM12 hf => ?_)
      have hfr : ∀ id : Nat, (id < 134 ∨ 145 ≤ id) → M12 id = M id := fun id hid => (by rw [eM12]; exact mt_mu_ne (by omega) : M12 id = M8 id).trans (hfr id hid)
      refine mt_ltI hf (fun x14 _ hf => ?_)
      exact ih4 x14 M12 hf hfr
    · intro j10 hj11 hf
      by_cases c15 : r7 = (99 : Int32)
      · have hf := mt_ifT c15 hf
        exact hj11 (-9 : Int32) hf hfr
      · have hf := mt_ifF c15 hf
        refine mt_b1I hf (fun r17 hg16 hf => ?_)
        exact hj11 (r7 * r17) hf hfr
set_option maxHeartbeats 4000000 in
set_option maxRecDepth 100000 in
theorem fr_X8_fewestPence (a1 : Int32) (M : mt_M) {r : Int32} {M' : mt_M} (hf : f_X8_fewestPence a1 M = some (r, M')) : ∀ id : Nat, (id < 134 ∨ 145 ≤ id) → (M') id = M id := by
  unfold f_X8_fewestPence at hf
  have hfr : ∀ id : Nat, (id < 134 ∨ 145 ≤ id) → M id = M id := fun _ _ => rfl
  refine mt_lpI3 hf (fun (x1 : Int32) (x2 : Int32) (M3 : mt_M) => (∀ id : Nat, (id < 134 ∨ 145 ≤ id) → M3 id = M id) → ∀ id : Nat, (id < 134 ∨ 145 ≤ id) → (M') id = M id) ?_ hfr
  intro k4 ih5 x1 x2 M3 hf hfr
  by_cases c6 : a1 ≤ x2
  · have hf := mt_ifT c6 hf
    obtain ⟨i1, i2⟩ := mt_so2 hf
    subst i1
    subst i2
    exact hfr
  · have hf := mt_ifF c6 hf
    refine mt_b1I hf (fun r8 hg7 hf => ?_)
    by_cases c9 : r8 = (-9 : Int32)
    · have hf := mt_ifT c9 hf
      obtain ⟨i1, i2⟩ := mt_so2 hf
      subst i1
      subst i2
      exact hfr
    · have hf := mt_ifF c9 hf
      refine mt_ciI hf (fun _ hf => ?_)
      refine mt_ltI hf (fun x11 _ hf => ?_)
      refine mt_ciI hf (fun _ hf => ?_)
      refine mt_ltI hf (fun M12 eM12 hf => ?_)
      have hfr : ∀ id : Nat, (id < 134 ∨ 145 ≤ id) → M12 id = M id := fun id hid => (by rw [eM12]; exact mt_mu_ne (by omega) : M12 id = M3 id).trans (hfr id hid)
      refine mt_ltI hf (fun x14 _ hf => ?_)
      exact ih5 x11 x14 M12 hf hfr
set_option maxHeartbeats 4000000 in
set_option maxRecDepth 100000 in
theorem fr_X8_weighPacks (M : mt_M) {M' : mt_M} (hf : f_X8_weighPacks M = some (M')) : ∀ id : Nat, (id < 134 ∨ 145 ≤ id) → (M') id = M id := by
  unfold f_X8_weighPacks at hf
  have hfr : ∀ id : Nat, (id < 134 ∨ 145 ≤ id) → M id = M id := fun _ _ => rfl
  refine mt_lpI2 hf (fun (x1 : Int32) (M2 : mt_M) => (∀ id : Nat, (id < 134 ∨ 145 ≤ id) → M2 id = M id) → ∀ id : Nat, (id < 134 ∨ 145 ≤ id) → (M') id = M id) ?_ hfr
  intro k3 ih4 x1 M2 hf hfr
  by_cases c5 : (M2 13 8) ≤ x1
  · have hf := mt_ifT c5 hf
    have i1 := mt_so1 hf
    subst i1
    exact hfr
  · have hf := mt_ifF c5 hf
    refine mt_b1I hf (fun r7 hg6 hf => ?_)
    refine mt_b1I hf (fun M9 hg8 hf => ?_)
    have hfr : ∀ id : Nat, (id < 134 ∨ 145 ≤ id) → M9 id = M id := fun id hid => (fr_X8_liveDaysOf x1 r7 (7 : Int32) M2 hg8 id (by omega)).trans (hfr id hid)
    refine mt_ciI hf (fun _ hf => ?_)
    refine mt_ltI hf (fun M10 eM10 hf => ?_)
    have hfr : ∀ id : Nat, (id < 134 ∨ 145 ≤ id) → M10 id = M id := fun id hid => (by rw [eM10]; exact mt_mu_ne (by omega) : M10 id = M9 id).trans (hfr id hid)
    refine mt_b1I hf (fun r13 hg12 hf => ?_)
    refine mt_b1I hf (fun M15 hg14 hf => ?_)
    have hfr : ∀ id : Nat, (id < 134 ∨ 145 ≤ id) → M15 id = M id := fun id hid => (fr_X8_liveDaysOf x1 r13 (7 : Int32) M10 hg14 id (by omega)).trans (hfr id hid)
    refine mt_ciI hf (fun _ hf => ?_)
    refine mt_ltI hf (fun M16 eM16 hf => ?_)
    have hfr : ∀ id : Nat, (id < 134 ∨ 145 ≤ id) → M16 id = M id := fun id hid => (by rw [eM16]; exact mt_mu_ne (by omega) : M16 id = M15 id).trans (hfr id hid)
    refine mt_ltI hf (fun x18 _ hf => ?_)
    exact ih4 x18 M16 hf hfr
set_option maxHeartbeats 4000000 in
set_option maxRecDepth 100000 in
theorem fr_X8_bestSet (a1 : Int32) (M : mt_M) {r : Int32} {M' : mt_M} (hf : f_X8_bestSet a1 M = some (r, M')) : ∀ id : Nat, (id < 134 ∨ 145 ≤ id) → (M') id = M id := by
  unfold f_X8_bestSet at hf
  have hfr : ∀ id : Nat, (id < 134 ∨ 145 ≤ id) → M id = M id := fun _ _ => rfl
  refine mt_b1I hf (fun M2 hg1 hf => ?_)
  have hfr : ∀ id : Nat, (id < 134 ∨ 145 ≤ id) → M2 id = M id := fun id hid => (fr_X8_weighPacks M hg1 id (by omega)).trans (hfr id hid)
  refine mt_lpI2 hf (fun (x3 : Int32) (x4 : Int32) => (∀ id : Nat, (id < 134 ∨ 145 ≤ id) → M2 id = M id) → ∀ id : Nat, (id < 134 ∨ 145 ≤ id) → (M') id = M id) ?_ hfr
  intro k5 ih6 x3 x4 hf hfr
  refine mt_b1I hf (fun r8 hg7 hf => ?_)
  by_cases c9 : r8 < x4
  · have hf := mt_ifT c9 hf
    obtain ⟨i1, i2⟩ := mt_so2 hf
    subst i1
    subst i2
    exact hfr
  · have hf := mt_ifF c9 hf
    refine mt_b1I hf (fun r11 hg10 hf => ?_)
    refine mt_jn1 hf (fun (x12 : Int32) => (∀ id : Nat, (id < 134 ∨ 145 ≤ id) → M2 id = M id) → ∀ id : Nat, (id < 134 ∨ 145 ≤ id) → (M') id = M id) ?_ ?_
    · intro x12 hf hfr
      refine mt_ltI hf (fun x15 _ hf => ?_)
      exact ih6 x12 x15 hf hfr
    · intro j13 hj14 hf
      by_cases c16 : a1 < r11
      · have hf := mt_ifT c16 hf
        exact hj14 x3 hf hfr
      · have hf := mt_ifF c16 hf
        refine mt_b1I hf (fun r18 hg17 hf => ?_)
        refine mt_b1I hf (fun r20 hg19 hf => ?_)
        by_cases c21 : r20 ≤ r18
        · have hf := mt_ifT c21 hf
          exact hj14 x3 hf hfr
        · have hf := mt_ifF c21 hf
          exact hj14 x4 hf hfr
set_option maxHeartbeats 4000000 in
set_option maxRecDepth 100000 in
theorem fr_X8_leastStockFor (a1 : Int32) (a2 : Int32) (M : mt_M) {r : Int32} {M' : mt_M} (hf : f_X8_leastStockFor a1 a2 M = some (r, M')) : ∀ id : Nat, (id < 134 ∨ 145 ≤ id) → (M') id = M id := by
  unfold f_X8_leastStockFor at hf
  have hfr : ∀ id : Nat, (id < 134 ∨ 145 ≤ id) → M id = M id := fun _ _ => rfl
  refine mt_lpI2 hf (fun (x1 : Int32) (M2 : mt_M) => (∀ id : Nat, (id < 134 ∨ 145 ≤ id) → M2 id = M id) → ∀ id : Nat, (id < 134 ∨ 145 ≤ id) → (M') id = M id) ?_ hfr
  intro k3 ih4 x1 M2 hf hfr
  by_cases c5 : (99 : Int32) < x1
  · have hf := mt_ifT c5 hf
    obtain ⟨i1, i2⟩ := mt_so2 hf
    subst i1
    subst i2
    exact hfr
  · have hf := mt_ifF c5 hf
    refine mt_b1I hf (fun M7 hg6 hf => ?_)
    have hfr : ∀ id : Nat, (id < 134 ∨ 145 ≤ id) → M7 id = M id := fun id hid => (fr_X8_liveDaysOf a1 x1 a2 M2 hg6 id (by omega)).trans (hfr id hid)
    by_cases c8 : (M7 137 10) = 0
    · have hf := mt_ifT c8 hf
      obtain ⟨i1, i2⟩ := mt_so2 hf
      subst i1
      subst i2
      exact hfr
    · have hf := mt_ifF c8 hf
      refine mt_ltI hf (fun x9 _ hf => ?_)
      exact ih4 x9 M7 hf hfr
set_option maxHeartbeats 4000000 in
set_option maxRecDepth 100000 in
theorem fr_X8_mostPacksUnspoilt (a1 : Int32) (a2 : Int32) (M : mt_M) {r : Int32} {M' : mt_M} (hf : f_X8_mostPacksUnspoilt a1 a2 M = some (r, M')) : ∀ id : Nat, (id < 134 ∨ 145 ≤ id) → (M') id = M id := by
  unfold f_X8_mostPacksUnspoilt at hf
  have hfr : ∀ id : Nat, (id < 134 ∨ 145 ≤ id) → M id = M id := fun _ _ => rfl
  refine mt_lpI3 hf (fun (x1 : Int32) (x2 : Int32) (M3 : mt_M) => (∀ id : Nat, (id < 134 ∨ 145 ≤ id) → M3 id = M id) → ∀ id : Nat, (id < 134 ∨ 145 ≤ id) → (M') id = M id) ?_ hfr
  intro k4 ih5 x1 x2 M3 hf hfr
  by_cases c6 : (20 : Int32) < x2
  · have hf := mt_ifT c6 hf
    obtain ⟨i1, i2⟩ := mt_so2 hf
    subst i1
    subst i2
    exact hfr
  · have hf := mt_ifF c6 hf
    refine mt_b1I hf (fun r8 hg7 hf => ?_)
    refine mt_b1I hf (fun M10 hg9 hf => ?_)
    have hfr : ∀ id : Nat, (id < 134 ∨ 145 ≤ id) → M10 id = M id := fun id hid => (fr_X8_liveDaysOf a1 r8 a2 M3 hg9 id (by omega)).trans (hfr id hid)
    refine mt_jn0 hf ((∀ id : Nat, (id < 134 ∨ 145 ≤ id) → M10 id = M id) → ∀ id : Nat, (id < 134 ∨ 145 ≤ id) → (M') id = M id) ?_ ?_
    · intro hf hfr
      refine mt_jn1 hf (fun (v13 : Int32) => (∀ id : Nat, (id < 134 ∨ 145 ≤ id) → M10 id = M id) → ∀ id : Nat, (id < 134 ∨ 145 ≤ id) → (M') id = M id) ?_ ?_
      · intro v13 hf hfr
        refine mt_ltI hf (fun x16 _ hf => ?_)
        exact ih5 v13 x16 M10 hf hfr
      · intro j14 hj15 hf
        by_cases c17 : (M10 137 11) = 0
        · have hf := mt_ifT c17 hf
          exact hj15 x2 hf hfr
        · have hf := mt_ifF c17 hf
          exact hj15 x1 hf hfr
    · intro j11 hj12 hf
      by_cases c18 : x2 = 0
      · have hf := mt_ifT c18 hf
        by_cases c19 : (M10 137 11) ≤ 0
        · have hf := mt_ifT c19 hf
          exact hj12 hf hfr
        · have hf := mt_ifF c19 hf
          obtain ⟨i1, i2⟩ := mt_so2 hf
          subst i1
          subst i2
          exact hfr
      · have hf := mt_ifF c18 hf
        exact hj12 hf hfr
set_option maxHeartbeats 4000000 in
set_option maxRecDepth 100000 in
theorem fr_X8_nothingLacksBy (a1 : Int32) (a2 : Int32) (M : mt_M) {r : Int32} {M' : mt_M} (hf : f_X8_nothingLacksBy a1 a2 M = some (r, M')) : ∀ id : Nat, (id < 134 ∨ 145 ≤ id) → (M') id = M id := by
  unfold f_X8_nothingLacksBy at hf
  have hfr : ∀ id : Nat, (id < 134 ∨ 145 ≤ id) → M id = M id := fun _ _ => rfl
  refine mt_b1I hf (fun M2 hg1 hf => ?_)
  have hfr : ∀ id : Nat, (id < 134 ∨ 145 ≤ id) → M2 id = M id := fun id hid => (fr_X8_begin M hg1 id (by omega)).trans (hfr id hid)
  refine mt_lpI3 hf (fun (x3 : Int32) (x4 : Int32) (M5 : mt_M) => (∀ id : Nat, (id < 134 ∨ 145 ≤ id) → M5 id = M id) → ∀ id : Nat, (id < 134 ∨ 145 ≤ id) → (M') id = M id) ?_ hfr
  intro k6 ih7 x3 x4 M5 hf hfr
  refine mt_jn0 hf ((∀ id : Nat, (id < 134 ∨ 145 ≤ id) → M5 id = M id) → ∀ id : Nat, (id < 134 ∨ 145 ≤ id) → (M') id = M id) ?_ ?_
  · intro hf hfr
    by_cases c10 : (M5 137 10) = 0
    · have hf := mt_ifT c10 hf
      obtain ⟨i1, i2⟩ := mt_so2 hf
      subst i1
      subst i2
      exact hfr
    · have hf := mt_ifF c10 hf
      obtain ⟨i1, i2⟩ := mt_so2 hf
      subst i1
      subst i2
      exact hfr
  · intro j8 hj9 hf
    by_cases c11 : (30 : Int32) ≤ x4
    · have hf := mt_ifT c11 hf
      exact hj9 hf hfr
    · have hf := mt_ifF c11 hf
      by_cases c12 : (M5 137 10) = 0
      · have hf := mt_ifT c12 hf
        refine mt_jn2 hf (fun (x13 : Int32) (M14 : mt_M) => (∀ id : Nat, (id < 134 ∨ 145 ≤ id) → M14 id = M id) → ∀ id : Nat, (id < 134 ∨ 145 ≤ id) → (M') id = M id) ?_ ?_
        · intro x13 M14 hf hfr
          refine mt_ltI hf (fun x17 _ hf => ?_)
          refine mt_b2I hf (fun r19 M20 hg18 hf => ?_)
          have hfr : ∀ id : Nat, (id < 134 ∨ 145 ≤ id) → M20 id = M id := fun id hid => (fr_X0_liveDay 137 M14 hg18 id (by omega)).trans (hfr id hid)
          refine mt_ltI hf (fun x21 _ hf => ?_)
          exact ih7 x17 x21 M20 hf hfr
        · intro j15 hj16 hf
          by_cases c22 : x3 = 0
          · have hf := mt_ifT c22 hf
            refine mt_lpI2 hf (fun (x23 : Int32) (M24 : mt_M) => (∀ id : Nat, (id < 134 ∨ 145 ≤ id) → M24 id = M id) → ∀ id : Nat, (id < 134 ∨ 145 ≤ id) → (M') id = M id) ?_ hfr
            intro k25 ih26 x23 M24 hf hfr
            by_cases c27 : (M24 137 8) ≤ x23
            · have hf := mt_ifT c27 hf
              exact hj16 a2 M24 hf hfr
            · have hf := mt_ifF c27 hf
              refine mt_b1I hf (fun M29 hg28 hf => ?_)
              have hfr : ∀ id : Nat, (id < 134 ∨ 145 ≤ id) → M29 id = M id := fun id hid => (fr_X0_buy 137 x23 a1 M24 hg28 id (by omega)).trans (hfr id hid)
              refine mt_ltI hf (fun x30 _ hf => ?_)
              exact ih26 x30 M29 hf hfr
          · have hf := mt_ifF c22 hf
            exact hj16 x3 M5 hf hfr
      · have hf := mt_ifF c12 hf
        exact hj9 hf hfr
set_option maxHeartbeats 4000000 in
set_option maxRecDepth 100000 in
theorem fr_X8_longestInterval (a1 : Int32) (M : mt_M) {r : Int32} {M' : mt_M} (hf : f_X8_longestInterval a1 M = some (r, M')) : ∀ id : Nat, (id < 134 ∨ 145 ≤ id) → (M') id = M id := by
  unfold f_X8_longestInterval at hf
  have hfr : ∀ id : Nat, (id < 134 ∨ 145 ≤ id) → M id = M id := fun _ _ => rfl
  refine mt_lpI2 hf (fun (x1 : Int32) (M2 : mt_M) => (∀ id : Nat, (id < 134 ∨ 145 ≤ id) → M2 id = M id) → ∀ id : Nat, (id < 134 ∨ 145 ≤ id) → (M') id = M id) ?_ hfr
  intro k3 ih4 x1 M2 hf hfr
  by_cases c5 : x1 < (1 : Int32)
  · have hf := mt_ifT c5 hf
    obtain ⟨i1, i2⟩ := mt_so2 hf
    subst i1
    subst i2
    exact hfr
  · have hf := mt_ifF c5 hf
    refine mt_b2I hf (fun r7 M8 hg6 hf => ?_)
    have hfr : ∀ id : Nat, (id < 134 ∨ 145 ≤ id) → M8 id = M id := fun id hid => (fr_X8_nothingLacksBy a1 x1 M2 hg6 id (by omega)).trans (hfr id hid)
    by_cases c9 : r7 = 0
    · have hf := mt_ifT c9 hf
      refine mt_ltI hf (fun x10 _ hf => ?_)
      exact ih4 x10 M8 hf hfr
    · have hf := mt_ifF c9 hf
      obtain ⟨i1, i2⟩ := mt_so2 hf
      subst i1
      subst i2
      exact hfr
set_option maxHeartbeats 4000000 in
set_option maxRecDepth 100000 in
theorem fr_X8_buyWhatIsBelow (a1 : Int32) (M : mt_M) {M' : mt_M} (hf : f_X8_buyWhatIsBelow a1 M = some (M')) : ∀ id : Nat, (id < 134 ∨ 145 ≤ id) → (M') id = M id := by
  unfold f_X8_buyWhatIsBelow at hf
  have hfr : ∀ id : Nat, (id < 134 ∨ 145 ≤ id) → M id = M id := fun _ _ => rfl
  refine mt_lpI2 hf (fun (x1 : Int32) (M2 : mt_M) => (∀ id : Nat, (id < 134 ∨ 145 ≤ id) → M2 id = M id) → ∀ id : Nat, (id < 134 ∨ 145 ≤ id) → (M') id = M id) ?_ hfr
  intro k3 ih4 x1 M2 hf hfr
  by_cases c5 : (M2 137 8) ≤ x1
  · have hf := mt_ifT c5 hf
    have i1 := mt_so1 hf
    subst i1
    exact hfr
  · have hf := mt_ifF c5 hf
    refine mt_b1I hf (fun r7 hg6 hf => ?_)
    refine mt_b1I hf (fun r9 hg8 hf => ?_)
    refine mt_jn1 hf (fun (M10 : mt_M) => (∀ id : Nat, (id < 134 ∨ 145 ≤ id) → M10 id = M id) → ∀ id : Nat, (id < 134 ∨ 145 ≤ id) → (M') id = M id) ?_ ?_
    · intro M10 hf hfr
      refine mt_ltI hf (fun x13 _ hf => ?_)
      exact ih4 x13 M10 hf hfr
    · intro j11 hj12 hf
      by_cases c14 : (a1 * r9) ≤ r7
      · have hf := mt_ifT c14 hf
        exact hj12 M2 hf hfr
      · have hf := mt_ifF c14 hf
        refine mt_b1I hf (fun M16 hg15 hf => ?_)
        have hfr : ∀ id : Nat, (id < 134 ∨ 145 ≤ id) → M16 id = M id := fun id hid => (fr_X0_buy 137 x1 (1 : Int32) M2 hg15 id (by omega)).trans (hfr id hid)
        exact hj12 M16 hf hfr
set_option maxHeartbeats 4000000 in
set_option maxRecDepth 100000 in
theorem fr_X8_costOfTurns (a1 : Int32) (a2 : Int32) (M : mt_M) {r : Int32} {M' : mt_M} (hf : f_X8_costOfTurns a1 a2 M = some (r, M')) : ∀ id : Nat, (id < 134 ∨ 145 ≤ id) → (M') id = M id := by
  unfold f_X8_costOfTurns at hf
  have hfr : ∀ id : Nat, (id < 134 ∨ 145 ≤ id) → M id = M id := fun _ _ => rfl
  refine mt_b1I hf (fun M2 hg1 hf => ?_)
  have hfr : ∀ id : Nat, (id < 134 ∨ 145 ≤ id) → M2 id = M id := fun id hid => (fr_X8_begin M hg1 id (by omega)).trans (hfr id hid)
  refine mt_lpI3 hf (fun (x3 : Int32) (x4 : Int32) (M5 : mt_M) => (∀ id : Nat, (id < 134 ∨ 145 ≤ id) → M5 id = M id) → ∀ id : Nat, (id < 134 ∨ 145 ≤ id) → (M') id = M id) ?_ hfr
  intro k6 ih7 x3 x4 M5 hf hfr
  by_cases c8 : a1 ≤ x4
  · have hf := mt_ifT c8 hf
    obtain ⟨i1, i2⟩ := mt_so2 hf
    subst i1
    subst i2
    exact hfr
  · have hf := mt_ifF c8 hf
    refine mt_jn1 hf (fun (v9 : Int32) => (∀ id : Nat, (id < 134 ∨ 145 ≤ id) → M5 id = M id) → ∀ id : Nat, (id < 134 ∨ 145 ≤ id) → (M') id = M id) ?_ ?_
    · intro v9 hf hfr
      refine mt_jn2 hf (fun (x12 : Int32) (M13 : mt_M) => (∀ id : Nat, (id < 134 ∨ 145 ≤ id) → M13 id = M id) → ∀ id : Nat, (id < 134 ∨ 145 ≤ id) → (M') id = M id) ?_ ?_
      · intro x12 M13 hf hfr
        refine mt_b2I hf (fun r17 M18 hg16 hf => ?_)
        have hfr : ∀ id : Nat, (id < 134 ∨ 145 ≤ id) → M18 id = M id := fun id hid => (fr_X0_liveDay 137 M13 hg16 id (by omega)).trans (hfr id hid)
        refine mt_ltI hf (fun x19 _ hf => ?_)
        exact ih7 x12 x19 M18 hf hfr
      · intro j14 hj15 hf
        by_cases c20 : v9 = 0
        · have hf := mt_ifT c20 hf
          exact hj15 x3 M5 hf hfr
        · have hf := mt_ifF c20 hf
          refine mt_ltI hf (fun x21 _ hf => ?_)
          refine mt_b1I hf (fun M23 hg22 hf => ?_)
          have hfr : ∀ id : Nat, (id < 134 ∨ 145 ≤ id) → M23 id = M id := fun id hid => (fr_X8_buyWhatIsBelow (2 : Int32) M5 hg22 id (by omega)).trans (hfr id hid)
          exact hj15 x21 M23 hf hfr
    · intro j10 hj11 hf
      by_cases c24 : a2 = 0
      · have hf := mt_ifT c24 hf
        by_cases c27 : (((M5 10 4) + x4) &&& (1 : Int32)) = 0
        · have hf := mt_ifT c27 hf
          exact hj11 (1 : Int32) hf hfr
        · have hf := mt_ifF c27 hf
          exact hj11 (0 : Int32) hf hfr
      · have hf := mt_ifF c24 hf
        refine mt_b1I hf (fun r26 hg25 hf => ?_)
        exact hj11 r26 hf hfr
set_option maxHeartbeats 4000000 in
set_option maxRecDepth 100000 in
theorem fr_X8_penceOfMonth (M : mt_M) {r : Int32} {M' : mt_M} (hf : f_X8_penceOfMonth M = some (r, M')) : ∀ id : Nat, (id < 134 ∨ 145 ≤ id) → (M') id = M id := by
  unfold f_X8_penceOfMonth at hf
  have hfr : ∀ id : Nat, (id < 134 ∨ 145 ≤ id) → M id = M id := fun _ _ => rfl
  refine mt_b1I hf (fun M2 hg1 hf => ?_)
  have hfr : ∀ id : Nat, (id < 134 ∨ 145 ≤ id) → M2 id = M id := fun id hid => (fr_X8_begin M hg1 id (by omega)).trans (hfr id hid)
  refine mt_lpI2 hf (fun (x3 : Int32) (M4 : mt_M) => (∀ id : Nat, (id < 134 ∨ 145 ≤ id) → M4 id = M id) → ∀ id : Nat, (id < 134 ∨ 145 ≤ id) → (M') id = M id) ?_ hfr
  intro k5 ih6 x3 M4 hf hfr
  by_cases c7 : (30 : Int32) ≤ x3
  · have hf := mt_ifT c7 hf
    obtain ⟨i1, i2⟩ := mt_so2 hf
    subst i1
    subst i2
    exact hfr
  · have hf := mt_ifF c7 hf
    refine mt_b1I hf (fun M9 hg8 hf => ?_)
    have hfr : ∀ id : Nat, (id < 134 ∨ 145 ≤ id) → M9 id = M id := fun id hid => (fr_X8_buyWhatIsBelow (1 : Int32) M4 hg8 id (by omega)).trans (hfr id hid)
    refine mt_b2I hf (fun r11 M12 hg10 hf => ?_)
    have hfr : ∀ id : Nat, (id < 134 ∨ 145 ≤ id) → M12 id = M id := fun id hid => (fr_X0_liveDay 137 M9 hg10 id (by omega)).trans (hfr id hid)
    refine mt_ltI hf (fun x13 _ hf => ?_)
    exact ih6 x13 M12 hf hfr
set_option maxHeartbeats 4000000 in
set_option maxRecDepth 100000 in
theorem fr_X8_bestSwap (M : mt_M) {r : Int32} {M' : mt_M} (hf : f_X8_bestSwap M = some (r, M')) : ∀ id : Nat, (id < 134 ∨ 145 ≤ id) → (M') id = M id := by
  unfold f_X8_bestSwap at hf
  have hfr : ∀ id : Nat, (id < 134 ∨ 145 ≤ id) → M id = M id := fun _ _ => rfl
  refine mt_b2I hf (fun r2 M3 hg1 hf => ?_)
  have hfr : ∀ id : Nat, (id < 134 ∨ 145 ≤ id) → M3 id = M id := fun id hid => (fr_X8_lackedIn (7 : Int32) M hg1 id (by omega)).trans (hfr id hid)
  refine mt_lpI4 hf (fun (x4 : Int32) (x5 : Int32) (x6 : Int32) (M7 : mt_M) => (∀ id : Nat, (id < 134 ∨ 145 ≤ id) → M7 id = M id) → ∀ id : Nat, (id < 134 ∨ 145 ≤ id) → (M') id = M id) ?_ hfr
  intro k8 ih9 x4 x5 x6 M7 hf hfr
  by_cases c10 : (M7 13 8) ≤ x6
  · have hf := mt_ifT c10 hf
    obtain ⟨i1, i2⟩ := mt_so2 hf
    subst i1
    subst i2
    exact hfr
  · have hf := mt_ifF c10 hf
    refine mt_ltI hf (fun x11 _ hf => ?_)
    refine mt_lpI4 hf (fun (x12 : Int32) (x13 : Int32) (x14 : Int32) (M15 : mt_M) => (∀ id : Nat, (id < 134 ∨ 145 ≤ id) → M15 id = M id) → ∀ id : Nat, (id < 134 ∨ 145 ≤ id) → (M') id = M id) ?_ hfr
    intro k16 ih17 x12 x13 x14 M15 hf hfr
    by_cases c18 : (M15 13 8) ≤ x14
    · have hf := mt_ifT c18 hf
      refine mt_ltI hf (fun x19 _ hf => ?_)
      exact ih9 x12 x13 x19 M15 hf hfr
    · have hf := mt_ifF c18 hf
      refine mt_b1I hf (fun M21 hg20 hf => ?_)
      have hfr : ∀ id : Nat, (id < 134 ∨ 145 ≤ id) → M21 id = M id := fun id hid => (fr_X8_begin M15 hg20 id (by omega)).trans (hfr id hid)
      refine mt_b1I hf (fun M23 hg22 hf => ?_)
      have hfr : ∀ id : Nat, (id < 134 ∨ 145 ≤ id) → M23 id = M id := fun id hid => (fr_X0_changeUses 137 x6 x14 M21 hg22 id (by omega)).trans (hfr id hid)
      refine mt_b1I hf (fun M25 hg24 hf => ?_)
      have hfr : ∀ id : Nat, (id < 134 ∨ 145 ≤ id) → M25 id = M id := fun id hid => (fr_X8_liveDays (7 : Int32) M23 hg24 id (by omega)).trans (hfr id hid)
      refine mt_jn2 hf (fun (x26 : Int32) (x27 : Int32) => (∀ id : Nat, (id < 134 ∨ 145 ≤ id) → M25 id = M id) → ∀ id : Nat, (id < 134 ∨ 145 ≤ id) → (M') id = M id) ?_ ?_
      · intro x26 x27 hf hfr
        refine mt_ltI hf (fun x30 _ hf => ?_)
        exact ih17 x26 x27 x30 M25 hf hfr
      · intro j28 hj29 hf
        by_cases c31 : x13 ≤ (M25 137 10)
        · have hf := mt_ifT c31 hf
          exact hj29 x12 x13 hf hfr
        · have hf := mt_ifF c31 hf
          refine mt_ltI hf (fun x32 _ hf => ?_)
          refine mt_ltI hf (fun x33 _ hf => ?_)
          exact hj29 x33 x32 hf hfr
set_option maxHeartbeats 4000000 in
set_option maxRecDepth 100000 in
theorem fr_X8_weeksByLot (a1 : Int32) (a2 : Int32) (a3 : Int32) (M : mt_M) {r : Int32} {M' : mt_M} (hf : f_X8_weeksByLot a1 a2 a3 M = some (r, M')) : ∀ id : Nat, (id < 134 ∨ 145 ≤ id) → (M') id = M id := by
  unfold f_X8_weeksByLot at hf
  have hfr : ∀ id : Nat, (id < 134 ∨ 145 ≤ id) → M id = M id := fun _ _ => rfl
  refine mt_lpI5 hf (fun (x1 : Int32) (x2 : Int32) (x3 : Int32) (x4 : Int32) (M5 : mt_M) => (∀ id : Nat, (id < 134 ∨ 145 ≤ id) → M5 id = M id) → ∀ id : Nat, (id < 134 ∨ 145 ≤ id) → (M') id = M id) ?_ hfr
  intro k6 ih7 x1 x2 x3 x4 M5 hf hfr
  by_cases c8 : a1 ≤ x4
  · have hf := mt_ifT c8 hf
    by_cases c9 : a3 = 0
    · have hf := mt_ifT c9 hf
      obtain ⟨i1, i2⟩ := mt_so2 hf
      subst i1
      subst i2
      exact hfr
    · have hf := mt_ifF c9 hf
      obtain ⟨i1, i2⟩ := mt_so2 hf
      subst i1
      subst i2
      exact hfr
  · have hf := mt_ifF c8 hf
    refine mt_b1I hf (fun M11 hg10 hf => ?_)
    have hfr : ∀ id : Nat, (id < 134 ∨ 145 ≤ id) → M11 id = M id := fun id hid => (fr_X8_begin M5 hg10 id (by omega)).trans (hfr id hid)
    refine mt_lpI3 hf (fun (x12 : Int32) (x13 : Int32) (M14 : mt_M) => (∀ id : Nat, (id < 134 ∨ 145 ≤ id) → M14 id = M id) → ∀ id : Nat, (id < 134 ∨ 145 ≤ id) → (M') id = M id) ?_ hfr
    intro k15 ih16 x12 x13 M14 hf hfr
    by_cases c17 : (7 : Int32) ≤ x13
    · have hf := mt_ifT c17 hf
      refine mt_ltI hf (fun x18 _ hf => ?_)
      refine mt_ltI hf (fun x19 _ hf => ?_)
      refine mt_ltI hf (fun x20 _ hf => ?_)
      exact ih7 x12 x18 x19 x20 M14 hf hfr
    · have hf := mt_ifF c17 hf
      refine mt_lpI3 hf (fun (x21 : Int32) (x22 : Int32) (M23 : mt_M) => (∀ id : Nat, (id < 134 ∨ 145 ≤ id) → M23 id = M id) → ∀ id : Nat, (id < 134 ∨ 145 ≤ id) → (M') id = M id) ?_ hfr
      intro k24 ih25 x21 x22 M23 hf hfr
      by_cases c26 : (M23 137 8) ≤ x22
      · have hf := mt_ifT c26 hf
        refine mt_b2I hf (fun r28 M29 hg27 hf => ?_)
        have hfr : ∀ id : Nat, (id < 134 ∨ 145 ≤ id) → M29 id = M id := fun id hid => (fr_X0_liveDay 137 M23 hg27 id (by omega)).trans (hfr id hid)
        refine mt_ltI hf (fun x30 _ hf => ?_)
        exact ih16 x21 x30 M29 hf hfr
      · have hf := mt_ifF c26 hf
        refine mt_ltI hf (fun x31 _ hf => ?_)
        refine mt_b1I hf (fun r33 hg32 hf => ?_)
        refine mt_b1I hf (fun M35 hg34 hf => ?_)
        have hfr : ∀ id : Nat, (id < 134 ∨ 145 ≤ id) → M35 id = M id := fun id hid => (fr_X0_buy 137 x22 r33 M23 hg34 id (by omega)).trans (hfr id hid)
        refine mt_ltI hf (fun x36 _ hf => ?_)
        exact ih25 x31 x36 M35 hf hfr
set_option maxHeartbeats 4000000 in
set_option maxRecDepth 100000 in
theorem fr_X11_refuse (a1 : Int32) (M : mt_M) {r : Int32} {M' : mt_M} (hf : f_X11_refuse a1 M = some (r, M')) : ∀ id : Nat, (147 ≤ id) → (M') id = M id := by
  unfold f_X11_refuse at hf
  have hfr : ∀ id : Nat, (147 ≤ id) → M id = M id := fun _ _ => rfl
  refine mt_ltI hf (fun x1 _ hf => ?_)
  by_cases c2 : x1 ≤ 0
  · have hf := mt_ifT c2 hf
    obtain ⟨i1, i2⟩ := mt_so2 hf
    subst i1
    subst i2
    exact hfr
  · have hf := mt_ifF c2 hf
    by_cases c3 : (Int32.ofNat 7) ≤ x1
    · have hf := mt_ifT c3 hf
      obtain ⟨i1, i2⟩ := mt_so2 hf
      subst i1
      subst i2
      exact hfr
    · have hf := mt_ifF c3 hf
      refine mt_ciI hf (fun _ hf => ?_)
      refine mt_ciI hf (fun _ hf => ?_)
      refine mt_ltI hf (fun M5 eM5 hf => ?_)
      have hfr : ∀ id : Nat, (147 ≤ id) → M5 id = M id := fun id hid => (by rw [eM5]; exact mt_mu_ne (by omega) : M5 id = M id).trans (hfr id hid)
      obtain ⟨i1, i2⟩ := mt_so2 hf
      subst i1
      subst i2
      exact hfr
set_option maxHeartbeats 4000000 in
set_option maxRecDepth 100000 in
theorem fr_X11_refuseLong (a1 : Int32) (M : mt_M) {r : Int64} {M' : mt_M} (hf : f_X11_refuseLong a1 M = some (r, M')) : ∀ id : Nat, (147 ≤ id) → (M') id = M id := by
  unfold f_X11_refuseLong at hf
  have hfr : ∀ id : Nat, (147 ≤ id) → M id = M id := fun _ _ => rfl
  refine mt_b2I hf (fun r2 M3 hg1 hf => ?_)
  have hfr : ∀ id : Nat, (147 ≤ id) → M3 id = M id := fun id hid => (fr_X11_refuse a1 M hg1 id (by omega)).trans (hfr id hid)
  obtain ⟨i1, i2⟩ := mt_so2 hf
  subst i1
  subst i2
  exact hfr
set_option maxHeartbeats 4000000 in
set_option maxRecDepth 100000 in
theorem fr_X11_feed (a1 : Int32) (M : mt_M) {r : Int32} {M' : mt_M} (hf : f_X11_feed a1 M = some (r, M')) : ∀ id : Nat, (147 ≤ id) → (M') id = M id := by
  unfold f_X11_feed at hf
  have hfr : ∀ id : Nat, (147 ≤ id) → M id = M id := fun _ _ => rfl
  refine mt_b1I hf (fun r2 hg1 hf => ?_)
  refine mt_b1I hf (fun r4 hg3 hf => ?_)
  refine mt_jn1 hf (fun (v5 : Int32) => (∀ id : Nat, (147 ≤ id) → M id = M id) → ∀ id : Nat, (147 ≤ id) → (M') id = M id) ?_ ?_
  · intro v5 hf hfr
    refine mt_b1I hf (fun r9 hg8 hf => ?_)
    by_cases c10 : r9 = 0
    · have hf := mt_ifT c10 hf
      refine mt_b2I hf (fun r12 M13 hg11 hf => ?_)
      have hfr : ∀ id : Nat, (147 ≤ id) → M13 id = M id := fun id hid => (fr_X7_add a1 M hg11 id (by omega)).trans (hfr id hid)
      obtain ⟨i1, i2⟩ := mt_so2 hf
      subst i1
      subst i2
      exact hfr
    · have hf := mt_ifF c10 hf
      refine mt_b2I hf (fun r15 M16 hg14 hf => ?_)
      have hfr : ∀ id : Nat, (147 ≤ id) → M16 id = M id := fun id hid => (fr_X11_refuse r9 M hg14 id (by omega)).trans (hfr id hid)
      obtain ⟨i1, i2⟩ := mt_so2 hf
      subst i1
      subst i2
      exact hfr
  · intro j6 hj7 hf
    by_cases c17 : r4 = 0
    · have hf := mt_ifT c17 hf
      exact hj7 (1 : Int32) hf hfr
    · have hf := mt_ifF c17 hf
      exact hj7 (0 : Int32) hf hfr
set_option maxHeartbeats 4000000 in
set_option maxRecDepth 100000 in
theorem fr_X11_house (M : mt_M) {r : Int32} {M' : mt_M} (hf : f_X11_house M = some (r, M')) : ∀ id : Nat, (147 ≤ id) → (M') id = M id := by
  unfold f_X11_house at hf
  have hfr : ∀ id : Nat, (147 ≤ id) → M id = M id := fun _ _ => rfl
  refine mt_b2I hf (fun r2 M3 hg1 hf => ?_)
  have hfr : ∀ id : Nat, (147 ≤ id) → M3 id = M id := fun id hid => (fr_X7_tell 10 21 M hg1 id (by omega)).trans (hfr id hid)
  refine mt_b1I hf (fun M5 hg4 hf => ?_)
  have hfr : ∀ id : Nat, (147 ≤ id) → M5 id = M id := fun id hid => (fr_X7_wipe M3 hg4 id (by omega)).trans (hfr id hid)
  by_cases c6 : r2 < 0
  · have hf := mt_ifT c6 hf
    obtain ⟨i1, i2⟩ := mt_so2 hf
    subst i1
    subst i2
    exact hfr
  · have hf := mt_ifF c6 hf
    refine mt_b1I hf (fun M8 hg7 hf => ?_)
    have hfr : ∀ id : Nat, (147 ≤ id) → M8 id = M id := fun id hid => (fr_X4_become 10 21 M5 hg7 id (by omega)).trans (hfr id hid)
    refine mt_b1I hf (fun M10 hg9 hf => ?_)
    have hfr : ∀ id : Nat, (147 ≤ id) → M10 id = M id := fun id hid => (fr_X3_forget M8 hg9 id (by omega)).trans (hfr id hid)
    obtain ⟨i1, i2⟩ := mt_so2 hf
    subst i1
    subst i2
    exact hfr
set_option maxHeartbeats 4000000 in
set_option maxRecDepth 100000 in
theorem fr_X11_thingOf (a1 : Int32) (a2 : Int32) (M : mt_M) {r : Int32} {M' : mt_M} (hf : f_X11_thingOf a1 a2 M = some (r, M')) : ∀ id : Nat, (147 ≤ id) → (M') id = M id := by
  unfold f_X11_thingOf at hf
  have hfr : ∀ id : Nat, (147 ≤ id) → M id = M id := fun _ _ => rfl
  refine mt_b1I hf (fun r2 hg1 hf => ?_)
  by_cases c3 : r2 = 0
  · have hf := mt_ifT c3 hf
    refine mt_b2I hf (fun r13 M14 hg12 hf => ?_)
    have hfr : ∀ id : Nat, (147 ≤ id) → M14 id = M id := fun id hid => (fr_X11_refuse (-1 : Int32) M hg12 id (by omega)).trans (hfr id hid)
    obtain ⟨i1, i2⟩ := mt_so2 hf
    subst i1
    subst i2
    exact hfr
  · have hf := mt_ifF c3 hf
    refine mt_b1I hf (fun r5 hg4 hf => ?_)
    by_cases c6 : r5 = 0
    · have hf := mt_ifT c6 hf
      refine mt_b2I hf (fun r8 M9 hg7 hf => ?_)
      have hfr : ∀ id : Nat, (147 ≤ id) → M9 id = M id := fun id hid => (fr_X11_refuse (-2 : Int32) M hg7 id (by omega)).trans (hfr id hid)
      obtain ⟨i1, i2⟩ := mt_so2 hf
      subst i1
      subst i2
      exact hfr
    · have hf := mt_ifF c6 hf
      refine mt_b1I hf (fun r11 hg10 hf => ?_)
      obtain ⟨i1, i2⟩ := mt_so2 hf
      subst i1
      subst i2
      exact hfr
set_option maxHeartbeats 4000000 in
set_option maxRecDepth 100000 in
theorem fr_X11_thing (a1 : Int32) (a2 : Int32) (a3 : Int32) (M : mt_M) {r : Int32} {M' : mt_M} (hf : f_X11_thing a1 a2 a3 M = some (r, M')) : ∀ id : Nat, (147 ≤ id) → (M') id = M id := by
  unfold f_X11_thing at hf
  have hfr : ∀ id : Nat, (147 ≤ id) → M id = M id := fun _ _ => rfl
  refine mt_b2I hf (fun r2 M3 hg1 hf => ?_)
  have hfr : ∀ id : Nat, (147 ≤ id) → M3 id = M id := fun id hid => (fr_X0_add 13 a1 a2 a3 M hg1 id (by omega)).trans (hfr id hid)
  by_cases c4 : 0 ≤ r2
  · have hf := mt_ifT c4 hf
    refine mt_b1I hf (fun M6 hg5 hf => ?_)
    have hfr : ∀ id : Nat, (147 ≤ id) → M6 id = M id := fun id hid => (fr_X3_forget M3 hg5 id (by omega)).trans (hfr id hid)
    obtain ⟨i1, i2⟩ := mt_so2 hf
    subst i1
    subst i2
    exact hfr
  · have hf := mt_ifF c4 hf
    refine mt_b2I hf (fun r8 M9 hg7 hf => ?_)
    have hfr : ∀ id : Nat, (147 ≤ id) → M9 id = M id := fun id hid => (fr_X11_refuse r2 M3 hg7 id (by omega)).trans (hfr id hid)
    obtain ⟨i1, i2⟩ := mt_so2 hf
    subst i1
    subst i2
    exact hfr
set_option maxHeartbeats 4000000 in
set_option maxRecDepth 100000 in
theorem fr_X11_stock (a1 : Int32) (a2 : Int32) (M : mt_M) {r : Int32} {M' : mt_M} (hf : f_X11_stock a1 a2 M = some (r, M')) : ∀ id : Nat, (147 ≤ id) → (M') id = M id := by
  unfold f_X11_stock at hf
  have hfr : ∀ id : Nat, (147 ≤ id) → M id = M id := fun _ _ => rfl
  refine mt_b1I hf (fun r2 hg1 hf => ?_)
  by_cases c3 : r2 = 0
  · have hf := mt_ifT c3 hf
    refine mt_b1I hf (fun M5 hg4 hf => ?_)
    have hfr : ∀ id : Nat, (147 ≤ id) → M5 id = M id := fun id hid => (fr_X3_keep 10 M hg4 id (by omega)).trans (hfr id hid)
    refine mt_b1I hf (fun r7 hg6 hf => ?_)
    refine mt_b1I hf (fun M9 hg8 hf => ?_)
    have hfr : ∀ id : Nat, (147 ≤ id) → M9 id = M id := fun id hid => (fr_X0_putStock 13 a1 a2 M5 hg8 id (by omega)).trans (hfr id hid)
    obtain ⟨i1, i2⟩ := mt_so2 hf
    subst i1
    subst i2
    exact hfr
  · have hf := mt_ifF c3 hf
    refine mt_b2I hf (fun r11 M12 hg10 hf => ?_)
    have hfr : ∀ id : Nat, (147 ≤ id) → M12 id = M id := fun id hid => (fr_X11_refuse r2 M hg10 id (by omega)).trans (hfr id hid)
    obtain ⟨i1, i2⟩ := mt_so2 hf
    subst i1
    subst i2
    exact hfr
set_option maxHeartbeats 4000000 in
set_option maxRecDepth 100000 in
theorem fr_X11_lineOf (a1 : Int32) (a2 : Int32) (a3 : Int32) (M : mt_M) {r : Int32} {M' : mt_M} (hf : f_X11_lineOf a1 a2 a3 M = some (r, M')) : ∀ id : Nat, (147 ≤ id) → (M') id = M id := by
  unfold f_X11_lineOf at hf
  have hfr : ∀ id : Nat, (147 ≤ id) → M id = M id := fun _ _ => rfl
  refine mt_b1I hf (fun r2 hg1 hf => ?_)
  by_cases c3 : r2 = 0
  · have hf := mt_ifT c3 hf
    refine mt_b2I hf (fun r16 M17 hg15 hf => ?_)
    have hfr : ∀ id : Nat, (147 ≤ id) → M17 id = M id := fun id hid => (fr_X11_refuse (-1 : Int32) M hg15 id (by omega)).trans (hfr id hid)
    obtain ⟨i1, i2⟩ := mt_so2 hf
    subst i1
    subst i2
    exact hfr
  · have hf := mt_ifF c3 hf
    refine mt_b1I hf (fun r5 hg4 hf => ?_)
    by_cases c6 : r5 = 0
    · have hf := mt_ifT c6 hf
      refine mt_b2I hf (fun r13 M14 hg12 hf => ?_)
      have hfr : ∀ id : Nat, (147 ≤ id) → M14 id = M id := fun id hid => (fr_X11_refuse (-2 : Int32) M hg12 id (by omega)).trans (hfr id hid)
      obtain ⟨i1, i2⟩ := mt_so2 hf
      subst i1
      subst i2
      exact hfr
    · have hf := mt_ifF c6 hf
      by_cases c7 : a3 = 0
      · have hf := mt_ifT c7 hf
        refine mt_b1I hf (fun r11 hg10 hf => ?_)
        obtain ⟨i1, i2⟩ := mt_so2 hf
        subst i1
        subst i2
        exact hfr
      · have hf := mt_ifF c7 hf
        refine mt_b1I hf (fun r9 hg8 hf => ?_)
        obtain ⟨i1, i2⟩ := mt_so2 hf
        subst i1
        subst i2
        exact hfr
set_option maxHeartbeats 4000000 in
set_option maxRecDepth 100000 in
theorem fr_X11_markOrRefuse (a1 : Int32) (a2 : Int32) (a3 : Int32) (M : mt_M) {r : Int32} {M' : mt_M} (hf : f_X11_markOrRefuse a1 a2 a3 M = some (r, M')) : ∀ id : Nat, (147 ≤ id) → (M') id = M id := by
  unfold f_X11_markOrRefuse at hf
  have hfr : ∀ id : Nat, (147 ≤ id) → M id = M id := fun _ _ => rfl
  refine mt_b1I hf (fun r2 hg1 hf => ?_)
  by_cases c3 : r2 = 0
  · have hf := mt_ifT c3 hf
    refine mt_b1I hf (fun M5 hg4 hf => ?_)
    have hfr : ∀ id : Nat, (147 ≤ id) → M5 id = M id := fun id hid => (fr_X3_keep 10 M hg4 id (by omega)).trans (hfr id hid)
    refine mt_b2I hf (fun r7 M8 hg6 hf => ?_)
    have hfr : ∀ id : Nat, (147 ≤ id) → M8 id = M id := fun id hid => (fr_X4_markLine 10 a1 a2 a3 M5 hg6 id (by omega)).trans (hfr id hid)
    obtain ⟨i1, i2⟩ := mt_so2 hf
    subst i1
    subst i2
    exact hfr
  · have hf := mt_ifF c3 hf
    refine mt_b2I hf (fun r10 M11 hg9 hf => ?_)
    have hfr : ∀ id : Nat, (147 ≤ id) → M11 id = M id := fun id hid => (fr_X11_refuse r2 M hg9 id (by omega)).trans (hfr id hid)
    obtain ⟨i1, i2⟩ := mt_so2 hf
    subst i1
    subst i2
    exact hfr
set_option maxHeartbeats 4000000 in
set_option maxRecDepth 100000 in
theorem fr_X11_writes (a1 : Int32) (a2 : Int32) (M : mt_M) {r : Int32} {M' : mt_M} (hf : f_X11_writes a1 a2 M = some (r, M')) : ∀ id : Nat, (147 ≤ id) → (M') id = M id := by
  unfold f_X11_writes at hf
  have hfr : ∀ id : Nat, (147 ≤ id) → M id = M id := fun _ _ => rfl
  refine mt_b2I hf (fun r2 M3 hg1 hf => ?_)
  have hfr : ∀ id : Nat, (147 ≤ id) → M3 id = M id := fun id hid => (fr_X11_markOrRefuse a1 a2 (119 : Int32) M hg1 id (by omega)).trans (hfr id hid)
  by_cases c4 : r2 = 0
  · have hf := mt_ifT c4 hf
    obtain ⟨i1, i2⟩ := mt_so2 hf
    subst i1
    subst i2
    exact hfr
  · have hf := mt_ifF c4 hf
    obtain ⟨i1, i2⟩ := mt_so2 hf
    subst i1
    subst i2
    exact hfr
set_option maxHeartbeats 4000000 in
set_option maxRecDepth 100000 in
theorem fr_X11_ticks (a1 : Int32) (a2 : Int32) (M : mt_M) {r : Int32} {M' : mt_M} (hf : f_X11_ticks a1 a2 M = some (r, M')) : ∀ id : Nat, (147 ≤ id) → (M') id = M id := by
  unfold f_X11_ticks at hf
  have hfr : ∀ id : Nat, (147 ≤ id) → M id = M id := fun _ _ => rfl
  refine mt_b2I hf (fun r2 M3 hg1 hf => ?_)
  have hfr : ∀ id : Nat, (147 ≤ id) → M3 id = M id := fun id hid => (fr_X11_markOrRefuse a1 a2 (107 : Int32) M hg1 id (by omega)).trans (hfr id hid)
  by_cases c4 : r2 = 0
  · have hf := mt_ifT c4 hf
    obtain ⟨i1, i2⟩ := mt_so2 hf
    subst i1
    subst i2
    exact hfr
  · have hf := mt_ifF c4 hf
    obtain ⟨i1, i2⟩ := mt_so2 hf
    subst i1
    subst i2
    exact hfr
set_option maxHeartbeats 4000000 in
set_option maxRecDepth 100000 in
theorem fr_X11_strikes (a1 : Int32) (a2 : Int32) (M : mt_M) {r : Int32} {M' : mt_M} (hf : f_X11_strikes a1 a2 M = some (r, M')) : ∀ id : Nat, (147 ≤ id) → (M') id = M id := by
  unfold f_X11_strikes at hf
  have hfr : ∀ id : Nat, (147 ≤ id) → M id = M id := fun _ _ => rfl
  refine mt_b2I hf (fun r2 M3 hg1 hf => ?_)
  have hfr : ∀ id : Nat, (147 ≤ id) → M3 id = M id := fun id hid => (fr_X11_markOrRefuse a1 a2 (120 : Int32) M hg1 id (by omega)).trans (hfr id hid)
  by_cases c4 : r2 = 0
  · have hf := mt_ifT c4 hf
    obtain ⟨i1, i2⟩ := mt_so2 hf
    subst i1
    subst i2
    exact hfr
  · have hf := mt_ifF c4 hf
    obtain ⟨i1, i2⟩ := mt_so2 hf
    subst i1
    subst i2
    exact hfr
set_option maxHeartbeats 4000000 in
set_option maxRecDepth 100000 in
theorem fr_X11_rule (a1 : Int32) (M : mt_M) {r : Int32} {M' : mt_M} (hf : f_X11_rule a1 M = some (r, M')) : ∀ id : Nat, (147 ≤ id) → (M') id = M id := by
  unfold f_X11_rule at hf
  have hfr : ∀ id : Nat, (147 ≤ id) → M id = M id := fun _ _ => rfl
  refine mt_b1I hf (fun r2 hg1 hf => ?_)
  by_cases c3 : r2 = 0
  · have hf := mt_ifT c3 hf
    refine mt_b2I hf (fun r9 M10 hg8 hf => ?_)
    have hfr : ∀ id : Nat, (147 ≤ id) → M10 id = M id := fun id hid => (fr_X11_refuse (-2 : Int32) M hg8 id (by omega)).trans (hfr id hid)
    obtain ⟨i1, i2⟩ := mt_so2 hf
    subst i1
    subst i2
    exact hfr
  · have hf := mt_ifF c3 hf
    refine mt_b1I hf (fun M5 hg4 hf => ?_)
    have hfr : ∀ id : Nat, (147 ≤ id) → M5 id = M id := fun id hid => (fr_X3_forget M hg4 id (by omega)).trans (hfr id hid)
    refine mt_ltI hf (fun x6 _ hf => ?_)
    refine mt_ltI hf (fun M7 eM7 hf => ?_)
    have hfr : ∀ id : Nat, (147 ≤ id) → M7 id = M id := fun id hid => (by rw [eM7]; exact mt_mu_ne (by omega) : M7 id = M5 id).trans (hfr id hid)
    obtain ⟨i1, i2⟩ := mt_so2 hf
    subst i1
    subst i2
    exact hfr
set_option maxHeartbeats 4000000 in
set_option maxRecDepth 100000 in
theorem fr_X11_join (M : mt_M) {r : Int32} {M' : mt_M} (hf : f_X11_join M = some (r, M')) : ∀ id : Nat, (147 ≤ id) → (M') id = M id := by
  unfold f_X11_join at hf
  have hfr : ∀ id : Nat, (147 ≤ id) → M id = M id := fun _ _ => rfl
  refine mt_b1I hf (fun M2 hg1 hf => ?_)
  have hfr : ∀ id : Nat, (147 ≤ id) → M2 id = M id := fun id hid => (fr_X3_keep 10 M hg1 id (by omega)).trans (hfr id hid)
  refine mt_b2I hf (fun r4 M5 hg3 hf => ?_)
  have hfr : ∀ id : Nat, (147 ≤ id) → M5 id = M id := fun id hid => (fr_X4_joinLists 10 M2 hg3 id (by omega)).trans (hfr id hid)
  obtain ⟨i1, i2⟩ := mt_so2 hf
  subst i1
  subst i2
  exact hfr
set_option maxHeartbeats 4000000 in
set_option maxRecDepth 100000 in
theorem fr_X11_day (M : mt_M) {r : Int32} {M' : mt_M} (hf : f_X11_day M = some (r, M')) : ∀ id : Nat, (147 ≤ id) → (M') id = M id := by
  unfold f_X11_day at hf
  have hfr : ∀ id : Nat, (147 ≤ id) → M id = M id := fun _ _ => rfl
  by_cases c1 : (M 10 4) < (999 : Int32)
  · have hf := mt_ifT c1 hf
    refine mt_b1I hf (fun M3 hg2 hf => ?_)
    have hfr : ∀ id : Nat, (147 ≤ id) → M3 id = M id := fun id hid => (fr_X3_keep 10 M hg2 id (by omega)).trans (hfr id hid)
    refine mt_b2I hf (fun r5 M6 hg4 hf => ?_)
    have hfr : ∀ id : Nat, (147 ≤ id) → M6 id = M id := fun id hid => (fr_X4_liveDays 10 (1 : Int32) M3 hg4 id (by omega)).trans (hfr id hid)
    obtain ⟨i1, i2⟩ := mt_so2 hf
    subst i1
    subst i2
    exact hfr
  · have hf := mt_ifF c1 hf
    refine mt_b2I hf (fun r8 M9 hg7 hf => ?_)
    have hfr : ∀ id : Nat, (147 ≤ id) → M9 id = M id := fun id hid => (fr_X11_refuse (-6 : Int32) M hg7 id (by omega)).trans (hfr id hid)
    obtain ⟨i1, i2⟩ := mt_so2 hf
    subst i1
    subst i2
    exact hfr
set_option maxHeartbeats 4000000 in
set_option maxRecDepth 100000 in
theorem fr_X11_back (M : mt_M) {r : Int32} {M' : mt_M} (hf : f_X11_back M = some (r, M')) : ∀ id : Nat, (147 ≤ id) → (M') id = M id := by
  unfold f_X11_back at hf
  have hfr : ∀ id : Nat, (147 ≤ id) → M id = M id := fun _ _ => rfl
  by_cases c1 : (M 43 2) = 0
  · have hf := mt_ifT c1 hf
    refine mt_b2I hf (fun r6 M7 hg5 hf => ?_)
    have hfr : ∀ id : Nat, (147 ≤ id) → M7 id = M id := fun id hid => (fr_X11_refuse (-3 : Int32) M hg5 id (by omega)).trans (hfr id hid)
    obtain ⟨i1, i2⟩ := mt_so2 hf
    subst i1
    subst i2
    exact hfr
  · have hf := mt_ifF c1 hf
    refine mt_b2I hf (fun r3 M4 hg2 hf => ?_)
    have hfr : ∀ id : Nat, (147 ≤ id) → M4 id = M id := fun id hid => (fr_X3_takeBack 10 M hg2 id (by omega)).trans (hfr id hid)
    obtain ⟨i1, i2⟩ := mt_so2 hf
    subst i1
    subst i2
    exact hfr
set_option maxHeartbeats 4000000 in
set_option maxRecDepth 100000 in
theorem fr_X11_joined (a1 : Int32) (a2 : Int32) (M : mt_M) {r : Int32} {M' : mt_M} (hf : f_X11_joined a1 a2 M = some (r, M')) : ∀ id : Nat, (147 ≤ id) → (M') id = M id := by
  unfold f_X11_joined at hf
  have hfr : ∀ id : Nat, (147 ≤ id) → M id = M id := fun _ _ => rfl
  refine mt_b1I hf (fun r2 hg1 hf => ?_)
  refine mt_jn0 hf ((∀ id : Nat, (147 ≤ id) → M id = M id) → ∀ id : Nat, (147 ≤ id) → (M') id = M id) ?_ ?_
  · intro hf hfr
    refine mt_b2I hf (fun r6 M7 hg5 hf => ?_)
    have hfr : ∀ id : Nat, (147 ≤ id) → M7 id = M id := fun id hid => (fr_X11_refuse (-2 : Int32) M hg5 id (by omega)).trans (hfr id hid)
    obtain ⟨i1, i2⟩ := mt_so2 hf
    subst i1
    subst i2
    exact hfr
  · intro j3 hj4 hf
    by_cases c8 : r2 = 0
    · have hf := mt_ifT c8 hf
      exact hj4 hf hfr
    · have hf := mt_ifF c8 hf
      refine mt_b1I hf (fun r10 hg9 hf => ?_)
      by_cases c11 : r10 = 0
      · have hf := mt_ifT c11 hf
        exact hj4 hf hfr
      · have hf := mt_ifF c11 hf
        by_cases c12 : a2 = (0 : Int32)
        · have hf := mt_ifT c12 hf
          refine mt_b1I hf (fun r14 hg13 hf => ?_)
          obtain ⟨i1, i2⟩ := mt_so2 hf
          subst i1
          subst i2
          exact hfr
        · have hf := mt_ifF c12 hf
          by_cases c15 : a2 = (1 : Int32)
          · have hf := mt_ifT c15 hf
            refine mt_b1I hf (fun r17 hg16 hf => ?_)
            obtain ⟨i1, i2⟩ := mt_so2 hf
            subst i1
            subst i2
            exact hfr
          · have hf := mt_ifF c15 hf
            refine mt_b1I hf (fun r19 hg18 hf => ?_)
            obtain ⟨i1, i2⟩ := mt_so2 hf
            subst i1
            subst i2
            exact hfr
set_option maxHeartbeats 4000000 in
set_option maxRecDepth 100000 in
theorem fr_X11_bestRule (a1 : Int32) (M : mt_M) {r : Int32} {M' : mt_M} (hf : f_X11_bestRule a1 M = some (r, M')) : ∀ id : Nat, (147 ≤ id) → (M') id = M id := by
  unfold f_X11_bestRule at hf
  have hfr : ∀ id : Nat, (147 ≤ id) → M id = M id := fun _ _ => rfl
  refine mt_b1I hf (fun r2 hg1 hf => ?_)
  by_cases c3 : r2 = 0
  · have hf := mt_ifT c3 hf
    refine mt_b2I hf (fun r22 M23 hg21 hf => ?_)
    have hfr : ∀ id : Nat, (147 ≤ id) → M23 id = M id := fun id hid => (fr_X11_refuse (-2 : Int32) M hg21 id (by omega)).trans (hfr id hid)
    obtain ⟨i1, i2⟩ := mt_so2 hf
    subst i1
    subst i2
    exact hfr
  · have hf := mt_ifF c3 hf
    refine mt_lpI2 hf (fun (x4 : Int32) (x5 : Int32) => (∀ id : Nat, (147 ≤ id) → M id = M id) → ∀ id : Nat, (147 ≤ id) → (M') id = M id) ?_ hfr
    intro k6 ih7 x4 x5 hf hfr
    by_cases c8 : (3 : Int32) < x5
    · have hf := mt_ifT c8 hf
      by_cases c9 : a1 = 0
      · have hf := mt_ifT c9 hf
        obtain ⟨i1, i2⟩ := mt_so2 hf
        subst i1
        subst i2
        exact hfr
      · have hf := mt_ifF c9 hf
        refine mt_b1I hf (fun r11 hg10 hf => ?_)
        obtain ⟨i1, i2⟩ := mt_so2 hf
        subst i1
        subst i2
        exact hfr
    · have hf := mt_ifF c8 hf
      refine mt_b1I hf (fun r13 hg12 hf => ?_)
      refine mt_b1I hf (fun r15 hg14 hf => ?_)
      refine mt_jn1 hf (fun (x16 : Int32) => (∀ id : Nat, (147 ≤ id) → M id = M id) → ∀ id : Nat, (147 ≤ id) → (M') id = M id) ?_ ?_
      · intro x16 hf hfr
        refine mt_ltI hf (fun x19 _ hf => ?_)
        exact ih7 x16 x19 hf hfr
      · intro j17 hj18 hf
        by_cases c20 : r15 ≤ r13
        · have hf := mt_ifT c20 hf
          exact hj18 x4 hf hfr
        · have hf := mt_ifF c20 hf
          exact hj18 x5 hf hfr
set_option maxHeartbeats 4000000 in
set_option maxRecDepth 100000 in
theorem fr_X11_paper (a1 : Int32) (M : mt_M) {r : Int32} {M' : mt_M} (hf : f_X11_paper a1 M = some (r, M')) : ∀ id : Nat, (147 ≤ id) → (M') id = M id := by
  unfold f_X11_paper at hf
  have hfr : ∀ id : Nat, (147 ≤ id) → M id = M id := fun _ _ => rfl
  refine mt_b1I hf (fun r2 hg1 hf => ?_)
  by_cases c3 : r2 = 0
  · have hf := mt_ifT c3 hf
    refine mt_b1I hf (fun r5 hg4 hf => ?_)
    refine mt_b1I hf (fun r7 hg6 hf => ?_)
    refine mt_b1I hf (fun r9 hg8 hf => ?_)
    obtain ⟨i1, i2⟩ := mt_so2 hf
    subst i1
    subst i2
    exact hfr
  · have hf := mt_ifF c3 hf
    refine mt_b2I hf (fun r11 M12 hg10 hf => ?_)
    have hfr : ∀ id : Nat, (147 ≤ id) → M12 id = M id := fun id hid => (fr_X11_refuse r2 M hg10 id (by omega)).trans (hfr id hid)
    obtain ⟨i1, i2⟩ := mt_so2 hf
    subst i1
    subst i2
    exact hfr
set_option maxHeartbeats 4000000 in
set_option maxRecDepth 100000 in
theorem fr_X11_skew (a1 : Int32) (M : mt_M) {r : Int32} {M' : mt_M} (hf : f_X11_skew a1 M = some (r, M')) : ∀ id : Nat, (147 ≤ id) → (M') id = M id := by
  unfold f_X11_skew at hf
  have hfr : ∀ id : Nat, (147 ≤ id) → M id = M id := fun _ _ => rfl
  refine mt_b1I hf (fun r2 hg1 hf => ?_)
  by_cases c3 : r2 = 0
  · have hf := mt_ifT c3 hf
    refine mt_b1I hf (fun r5 hg4 hf => ?_)
    refine mt_b1I hf (fun r7 hg6 hf => ?_)
    obtain ⟨i1, i2⟩ := mt_so2 hf
    subst i1
    subst i2
    exact hfr
  · have hf := mt_ifF c3 hf
    refine mt_b2I hf (fun r9 M10 hg8 hf => ?_)
    have hfr : ∀ id : Nat, (147 ≤ id) → M10 id = M id := fun id hid => (fr_X11_refuse r2 M hg8 id (by omega)).trans (hfr id hid)
    obtain ⟨i1, i2⟩ := mt_so2 hf
    subst i1
    subst i2
    exact hfr
set_option maxHeartbeats 4000000 in
set_option maxRecDepth 100000 in
theorem fr_X11_close (a1 : Int32) (M : mt_M) {r : Int32} {M' : mt_M} (hf : f_X11_close a1 M = some (r, M')) : ∀ id : Nat, (147 ≤ id) → (M') id = M id := by
  unfold f_X11_close at hf
  have hfr : ∀ id : Nat, (147 ≤ id) → M id = M id := fun _ _ => rfl
  refine mt_b1I hf (fun r2 hg1 hf => ?_)
  by_cases c3 : r2 = 0
  · have hf := mt_ifT c3 hf
    refine mt_b1I hf (fun r5 hg4 hf => ?_)
    refine mt_b1I hf (fun r7 hg6 hf => ?_)
    obtain ⟨i1, i2⟩ := mt_so2 hf
    subst i1
    subst i2
    exact hfr
  · have hf := mt_ifF c3 hf
    refine mt_b2I hf (fun r9 M10 hg8 hf => ?_)
    have hfr : ∀ id : Nat, (147 ≤ id) → M10 id = M id := fun id hid => (fr_X11_refuse r2 M hg8 id (by omega)).trans (hfr id hid)
    obtain ⟨i1, i2⟩ := mt_so2 hf
    subst i1
    subst i2
    exact hfr
set_option maxHeartbeats 4000000 in
set_option maxRecDepth 100000 in
theorem fr_X11_stockIn (a1 : Int32) (a2 : Int32) (M : mt_M) {r : Int32} {M' : mt_M} (hf : f_X11_stockIn a1 a2 M = some (r, M')) : ∀ id : Nat, (147 ≤ id) → (M') id = M id := by
  unfold f_X11_stockIn at hf
  have hfr : ∀ id : Nat, (147 ≤ id) → M id = M id := fun _ _ => rfl
  refine mt_b1I hf (fun r2 hg1 hf => ?_)
  by_cases c3 : r2 = 0
  · have hf := mt_ifT c3 hf
    refine mt_b2I hf (fun r5 M6 hg4 hf => ?_)
    have hfr : ∀ id : Nat, (147 ≤ id) → M6 id = M id := fun id hid => (fr_X8_stockBehind a1 a2 M hg4 id (by omega)).trans (hfr id hid)
    obtain ⟨i1, i2⟩ := mt_so2 hf
    subst i1
    subst i2
    exact hfr
  · have hf := mt_ifF c3 hf
    refine mt_b2I hf (fun r8 M9 hg7 hf => ?_)
    have hfr : ∀ id : Nat, (147 ≤ id) → M9 id = M id := fun id hid => (fr_X11_refuse r2 M hg7 id (by omega)).trans (hfr id hid)
    obtain ⟨i1, i2⟩ := mt_so2 hf
    subst i1
    subst i2
    exact hfr
set_option maxHeartbeats 4000000 in
set_option maxRecDepth 100000 in
theorem fr_X11_lacking (a1 : Int32) (a2 : Int32) (M : mt_M) {r : Int32} {M' : mt_M} (hf : f_X11_lacking a1 a2 M = some (r, M')) : ∀ id : Nat, (147 ≤ id) → (M') id = M id := by
  unfold f_X11_lacking at hf
  have hfr : ∀ id : Nat, (147 ≤ id) → M id = M id := fun _ _ => rfl
  refine mt_b1I hf (fun r2 hg1 hf => ?_)
  refine mt_b1I hf (fun r4 hg3 hf => ?_)
  refine mt_b1I hf (fun r6 hg5 hf => ?_)
  by_cases c7 : r6 = 0
  · have hf := mt_ifT c7 hf
    by_cases c8 : a2 = 0
    · have hf := mt_ifT c8 hf
      refine mt_b2I hf (fun r13 M14 hg12 hf => ?_)
      have hfr : ∀ id : Nat, (147 ≤ id) → M14 id = M id := fun id hid => (fr_X8_lackedIn a1 M hg12 id (by omega)).trans (hfr id hid)
      obtain ⟨i1, i2⟩ := mt_so2 hf
      subst i1
      subst i2
      exact hfr
    · have hf := mt_ifF c8 hf
      refine mt_b2I hf (fun r10 M11 hg9 hf => ?_)
      have hfr : ∀ id : Nat, (147 ≤ id) → M11 id = M id := fun id hid => (fr_X8_spoiltIn a1 M hg9 id (by omega)).trans (hfr id hid)
      obtain ⟨i1, i2⟩ := mt_so2 hf
      subst i1
      subst i2
      exact hfr
  · have hf := mt_ifF c7 hf
    refine mt_b2I hf (fun r16 M17 hg15 hf => ?_)
    have hfr : ∀ id : Nat, (147 ≤ id) → M17 id = M id := fun id hid => (fr_X11_refuse r6 M hg15 id (by omega)).trans (hfr id hid)
    obtain ⟨i1, i2⟩ := mt_so2 hf
    subst i1
    subst i2
    exact hfr
set_option maxHeartbeats 4000000 in
set_option maxRecDepth 100000 in
theorem fr_X11_runsOut (a1 : Int32) (M : mt_M) {r : Int32} {M' : mt_M} (hf : f_X11_runsOut a1 M = some (r, M')) : ∀ id : Nat, (147 ≤ id) → (M') id = M id := by
  unfold f_X11_runsOut at hf
  have hfr : ∀ id : Nat, (147 ≤ id) → M id = M id := fun _ _ => rfl
  refine mt_b1I hf (fun r2 hg1 hf => ?_)
  by_cases c3 : r2 = 0
  · have hf := mt_ifT c3 hf
    refine mt_b2I hf (fun r5 M6 hg4 hf => ?_)
    have hfr : ∀ id : Nat, (147 ≤ id) → M6 id = M id := fun id hid => (fr_X11_refuse (-1 : Int32) M hg4 id (by omega)).trans (hfr id hid)
    obtain ⟨i1, i2⟩ := mt_so2 hf
    subst i1
    subst i2
    exact hfr
  · have hf := mt_ifF c3 hf
    refine mt_b2I hf (fun r8 M9 hg7 hf => ?_)
    have hfr : ∀ id : Nat, (147 ≤ id) → M9 id = M id := fun id hid => (fr_X8_firstDayWithout a1 M hg7 id (by omega)).trans (hfr id hid)
    obtain ⟨i1, i2⟩ := mt_so2 hf
    subst i1
    subst i2
    exact hfr
set_option maxHeartbeats 4000000 in
set_option maxRecDepth 100000 in
theorem fr_X11_firstOut (M : mt_M) {r : Int32} {M' : mt_M} (hf : f_X11_firstOut M = some (r, M')) : ∀ id : Nat, (147 ≤ id) → (M') id = M id := by
  unfold f_X11_firstOut at hf
  have hfr : ∀ id : Nat, (147 ≤ id) → M id = M id := fun _ _ => rfl
  refine mt_b2I hf (fun r2 M3 hg1 hf => ?_)
  have hfr : ∀ id : Nat, (147 ≤ id) → M3 id = M id := fun id hid => (fr_X8_firstThingOut M hg1 id (by omega)).trans (hfr id hid)
  obtain ⟨i1, i2⟩ := mt_so2 hf
  subst i1
  subst i2
  exact hfr
set_option maxHeartbeats 4000000 in
set_option maxRecDepth 100000 in
theorem fr_X11_buyFor (a1 : Int32) (a2 : Int32) (M : mt_M) {r : Int32} {M' : mt_M} (hf : f_X11_buyFor a1 a2 M = some (r, M')) : ∀ id : Nat, (147 ≤ id) → (M') id = M id := by
  unfold f_X11_buyFor at hf
  have hfr : ∀ id : Nat, (147 ≤ id) → M id = M id := fun _ _ => rfl
  refine mt_jn1 hf (fun (v1 : Int32) => (∀ id : Nat, (147 ≤ id) → M id = M id) → ∀ id : Nat, (147 ≤ id) → (M') id = M id) ?_ ?_
  · intro v1 hf hfr
    refine mt_jn1 hf (fun (v4 : Int32) => (∀ id : Nat, (147 ≤ id) → M id = M id) → ∀ id : Nat, (147 ≤ id) → (M') id = M id) ?_ ?_
    · intro v4 hf hfr
      by_cases c7 : v4 = 0
      · have hf := mt_ifT c7 hf
        by_cases c8 : v1 = 0
        · have hf := mt_ifT c8 hf
          refine mt_b2I hf (fun r14 M15 hg13 hf => ?_)
          have hfr : ∀ id : Nat, (147 ≤ id) → M15 id = M id := fun id hid => (fr_X8_packsFor a1 a2 M hg13 id (by omega)).trans (hfr id hid)
          obtain ⟨i1, i2⟩ := mt_so2 hf
          subst i1
          subst i2
          exact hfr
        · have hf := mt_ifF c8 hf
          refine mt_b1I hf (fun M10 hg9 hf => ?_)
          have hfr : ∀ id : Nat, (147 ≤ id) → M10 id = M id := fun id hid => (fr_X8_noteCosts a2 M hg9 id (by omega)).trans (hfr id hid)
          refine mt_b1I hf (fun r12 hg11 hf => ?_)
          obtain ⟨i1, i2⟩ := mt_so2 hf
          subst i1
          subst i2
          exact hfr
      · have hf := mt_ifF c7 hf
        refine mt_b2I hf (fun r17 M18 hg16 hf => ?_)
        have hfr : ∀ id : Nat, (147 ≤ id) → M18 id = M id := fun id hid => (fr_X11_refuse v4 M hg16 id (by omega)).trans (hfr id hid)
        obtain ⟨i1, i2⟩ := mt_so2 hf
        subst i1
        subst i2
        exact hfr
    · intro j5 hj6 hf
      by_cases c19 : v1 = 0
      · have hf := mt_ifT c19 hf
        refine mt_b1I hf (fun r21 hg20 hf => ?_)
        exact hj6 r21 hf hfr
      · have hf := mt_ifF c19 hf
        refine mt_b1I hf (fun r23 hg22 hf => ?_)
        exact hj6 r23 hf hfr
  · intro j2 hj3 hf
    by_cases c24 : a1 = (-1 : Int32)
    · have hf := mt_ifT c24 hf
      exact hj3 (1 : Int32) hf hfr
    · have hf := mt_ifF c24 hf
      exact hj3 (0 : Int32) hf hfr
set_option maxHeartbeats 4000000 in
set_option maxRecDepth 100000 in
theorem fr_X11_order (a1 : Int32) (a2 : Int32) (M : mt_M) {r : Int32} {M' : mt_M} (hf : f_X11_order a1 a2 M = some (r, M')) : ∀ id : Nat, (147 ≤ id) → (M') id = M id := by
  unfold f_X11_order at hf
  have hfr : ∀ id : Nat, (147 ≤ id) → M id = M id := fun _ _ => rfl
  refine mt_b1I hf (fun r2 hg1 hf => ?_)
  refine mt_b1I hf (fun r4 hg3 hf => ?_)
  refine mt_b1I hf (fun r6 hg5 hf => ?_)
  by_cases c7 : r6 = 0
  · have hf := mt_ifT c7 hf
    refine mt_b2I hf (fun r9 M10 hg8 hf => ?_)
    have hfr : ∀ id : Nat, (147 ≤ id) → M10 id = M id := fun id hid => (fr_X8_bestSet a1 M hg8 id (by omega)).trans (hfr id hid)
    by_cases c11 : a2 = 0
    · have hf := mt_ifT c11 hf
      obtain ⟨i1, i2⟩ := mt_so2 hf
      subst i1
      subst i2
      exact hfr
    · have hf := mt_ifF c11 hf
      refine mt_b1I hf (fun r13 hg12 hf => ?_)
      obtain ⟨i1, i2⟩ := mt_so2 hf
      subst i1
      subst i2
      exact hfr
  · have hf := mt_ifF c7 hf
    refine mt_b2I hf (fun r15 M16 hg14 hf => ?_)
    have hfr : ∀ id : Nat, (147 ≤ id) → M16 id = M id := fun id hid => (fr_X11_refuse r6 M hg14 id (by omega)).trans (hfr id hid)
    obtain ⟨i1, i2⟩ := mt_so2 hf
    subst i1
    subst i2
    exact hfr
set_option maxHeartbeats 4000000 in
set_option maxRecDepth 100000 in
theorem fr_X11_lasts (a1 : Int32) (M : mt_M) {r : Int32} {M' : mt_M} (hf : f_X11_lasts a1 M = some (r, M')) : ∀ id : Nat, (147 ≤ id) → (M') id = M id := by
  unfold f_X11_lasts at hf
  have hfr : ∀ id : Nat, (147 ≤ id) → M id = M id := fun _ _ => rfl
  refine mt_b1I hf (fun r2 hg1 hf => ?_)
  by_cases c3 : r2 = 0
  · have hf := mt_ifT c3 hf
    refine mt_b2I hf (fun r5 M6 hg4 hf => ?_)
    have hfr : ∀ id : Nat, (147 ≤ id) → M6 id = M id := fun id hid => (fr_X8_firstDayWithoutSome a1 M hg4 id (by omega)).trans (hfr id hid)
    obtain ⟨i1, i2⟩ := mt_so2 hf
    subst i1
    subst i2
    exact hfr
  · have hf := mt_ifF c3 hf
    refine mt_b2I hf (fun r8 M9 hg7 hf => ?_)
    have hfr : ∀ id : Nat, (147 ≤ id) → M9 id = M id := fun id hid => (fr_X11_refuse r2 M hg7 id (by omega)).trans (hfr id hid)
    obtain ⟨i1, i2⟩ := mt_so2 hf
    subst i1
    subst i2
    exact hfr
set_option maxHeartbeats 4000000 in
set_option maxRecDepth 100000 in
theorem fr_X11_needs (a1 : Int32) (a2 : Int32) (M : mt_M) {r : Int32} {M' : mt_M} (hf : f_X11_needs a1 a2 M = some (r, M')) : ∀ id : Nat, (147 ≤ id) → (M') id = M id := by
  unfold f_X11_needs at hf
  have hfr : ∀ id : Nat, (147 ≤ id) → M id = M id := fun _ _ => rfl
  refine mt_b1I hf (fun r2 hg1 hf => ?_)
  by_cases c3 : r2 = 0
  · have hf := mt_ifT c3 hf
    refine mt_b2I hf (fun r5 M6 hg4 hf => ?_)
    have hfr : ∀ id : Nat, (147 ≤ id) → M6 id = M id := fun id hid => (fr_X8_leastStockFor a1 a2 M hg4 id (by omega)).trans (hfr id hid)
    obtain ⟨i1, i2⟩ := mt_so2 hf
    subst i1
    subst i2
    exact hfr
  · have hf := mt_ifF c3 hf
    refine mt_b2I hf (fun r8 M9 hg7 hf => ?_)
    have hfr : ∀ id : Nat, (147 ≤ id) → M9 id = M id := fun id hid => (fr_X11_refuse r2 M hg7 id (by omega)).trans (hfr id hid)
    obtain ⟨i1, i2⟩ := mt_so2 hf
    subst i1
    subst i2
    exact hfr
set_option maxHeartbeats 4000000 in
set_option maxRecDepth 100000 in
theorem fr_X11_noWaste (a1 : Int32) (a2 : Int32) (M : mt_M) {r : Int32} {M' : mt_M} (hf : f_X11_noWaste a1 a2 M = some (r, M')) : ∀ id : Nat, (147 ≤ id) → (M') id = M id := by
  unfold f_X11_noWaste at hf
  have hfr : ∀ id : Nat, (147 ≤ id) → M id = M id := fun _ _ => rfl
  refine mt_b1I hf (fun r2 hg1 hf => ?_)
  by_cases c3 : r2 = 0
  · have hf := mt_ifT c3 hf
    refine mt_b2I hf (fun r5 M6 hg4 hf => ?_)
    have hfr : ∀ id : Nat, (147 ≤ id) → M6 id = M id := fun id hid => (fr_X8_mostPacksUnspoilt a1 a2 M hg4 id (by omega)).trans (hfr id hid)
    obtain ⟨i1, i2⟩ := mt_so2 hf
    subst i1
    subst i2
    exact hfr
  · have hf := mt_ifF c3 hf
    refine mt_b2I hf (fun r8 M9 hg7 hf => ?_)
    have hfr : ∀ id : Nat, (147 ≤ id) → M9 id = M id := fun id hid => (fr_X11_refuse r2 M hg7 id (by omega)).trans (hfr id hid)
    obtain ⟨i1, i2⟩ := mt_so2 hf
    subst i1
    subst i2
    exact hfr
set_option maxHeartbeats 4000000 in
set_option maxRecDepth 100000 in
theorem fr_X11_cheapest (a1 : Int32) (a2 : Int32) (M : mt_M) {r : Int32} {M' : mt_M} (hf : f_X11_cheapest a1 a2 M = some (r, M')) : ∀ id : Nat, (147 ≤ id) → (M') id = M id := by
  unfold f_X11_cheapest at hf
  have hfr : ∀ id : Nat, (147 ≤ id) → M id = M id := fun _ _ => rfl
  refine mt_jn0 hf ((∀ id : Nat, (147 ≤ id) → M id = M id) → ∀ id : Nat, (147 ≤ id) → (M') id = M id) ?_ ?_
  · intro hf hfr
    refine mt_b2I hf (fun r4 M5 hg3 hf => ?_)
    have hfr : ∀ id : Nat, (147 ≤ id) → M5 id = M id := fun id hid => (fr_X11_refuse (-4 : Int32) M hg3 id (by omega)).trans (hfr id hid)
    obtain ⟨i1, i2⟩ := mt_so2 hf
    subst i1
    subst i2
    exact hfr
  · intro j1 hj2 hf
    by_cases c6 : a1 < 0
    · have hf := mt_ifT c6 hf
      exact hj2 hf hfr
    · have hf := mt_ifF c6 hf
      by_cases c7 : (1 : Int32) ≤ a2
      · have hf := mt_ifT c7 hf
        refine mt_jn0 hf ((∀ id : Nat, (147 ≤ id) → M id = M id) → ∀ id : Nat, (147 ≤ id) → (M') id = M id) ?_ ?_
        · intro hf hfr
          refine mt_b2I hf (fun r11 M12 hg10 hf => ?_)
          have hfr : ∀ id : Nat, (147 ≤ id) → M12 id = M id := fun id hid => (fr_X11_refuse (-6 : Int32) M hg10 id (by omega)).trans (hfr id hid)
          obtain ⟨i1, i2⟩ := mt_so2 hf
          subst i1
          subst i2
          exact hfr
        · intro j8 hj9 hf
          by_cases c13 : (7 : Int32) < a1
          · have hf := mt_ifT c13 hf
            exact hj9 hf hfr
          · have hf := mt_ifF c13 hf
            by_cases c14 : a2 ≤ (30 : Int32)
            · have hf := mt_ifT c14 hf
              refine mt_b1I hf (fun M16 hg15 hf => ?_)
              have hfr : ∀ id : Nat, (147 ≤ id) → M16 id = M id := fun id hid => (fr_X8_noteCosts a2 M hg15 id (by omega)).trans (hfr id hid)
              refine mt_b2I hf (fun r18 M19 hg17 hf => ?_)
              have hfr : ∀ id : Nat, (147 ≤ id) → M19 id = M id := fun id hid => (fr_X8_fewestPence a1 M16 hg17 id (by omega)).trans (hfr id hid)
              obtain ⟨i1, i2⟩ := mt_so2 hf
              subst i1
              subst i2
              exact hfr
            · have hf := mt_ifF c14 hf
              exact hj9 hf hfr
      · have hf := mt_ifF c7 hf
        exact hj2 hf hfr
set_option maxHeartbeats 4000000 in
set_option maxRecDepth 100000 in
theorem fr_X11_interval (a1 : Int32) (M : mt_M) {r : Int32} {M' : mt_M} (hf : f_X11_interval a1 M = some (r, M')) : ∀ id : Nat, (147 ≤ id) → (M') id = M id := by
  unfold f_X11_interval at hf
  have hfr : ∀ id : Nat, (147 ≤ id) → M id = M id := fun _ _ => rfl
  refine mt_b1I hf (fun r2 hg1 hf => ?_)
  by_cases c3 : r2 = 0
  · have hf := mt_ifT c3 hf
    refine mt_b2I hf (fun r5 M6 hg4 hf => ?_)
    have hfr : ∀ id : Nat, (147 ≤ id) → M6 id = M id := fun id hid => (fr_X8_longestInterval a1 M hg4 id (by omega)).trans (hfr id hid)
    obtain ⟨i1, i2⟩ := mt_so2 hf
    subst i1
    subst i2
    exact hfr
  · have hf := mt_ifF c3 hf
    refine mt_b2I hf (fun r8 M9 hg7 hf => ?_)
    have hfr : ∀ id : Nat, (147 ≤ id) → M9 id = M id := fun id hid => (fr_X11_refuse r2 M hg7 id (by omega)).trans (hfr id hid)
    obtain ⟨i1, i2⟩ := mt_so2 hf
    subst i1
    subst i2
    exact hfr
set_option maxHeartbeats 4000000 in
set_option maxRecDepth 100000 in
theorem fr_X11_turns (a1 : Int32) (a2 : Int32) (M : mt_M) {r : Int32} {M' : mt_M} (hf : f_X11_turns a1 a2 M = some (r, M')) : ∀ id : Nat, (147 ≤ id) → (M') id = M id := by
  unfold f_X11_turns at hf
  have hfr : ∀ id : Nat, (147 ≤ id) → M id = M id := fun _ _ => rfl
  refine mt_b1I hf (fun r2 hg1 hf => ?_)
  refine mt_b1I hf (fun r4 hg3 hf => ?_)
  refine mt_b1I hf (fun r6 hg5 hf => ?_)
  by_cases c7 : r6 = 0
  · have hf := mt_ifT c7 hf
    refine mt_b2I hf (fun r9 M10 hg8 hf => ?_)
    have hfr : ∀ id : Nat, (147 ≤ id) → M10 id = M id := fun id hid => (fr_X8_costOfTurns a1 a2 M hg8 id (by omega)).trans (hfr id hid)
    obtain ⟨i1, i2⟩ := mt_so2 hf
    subst i1
    subst i2
    exact hfr
  · have hf := mt_ifF c7 hf
    refine mt_b2I hf (fun r12 M13 hg11 hf => ?_)
    have hfr : ∀ id : Nat, (147 ≤ id) → M13 id = M id := fun id hid => (fr_X11_refuse r6 M hg11 id (by omega)).trans (hfr id hid)
    obtain ⟨i1, i2⟩ := mt_so2 hf
    subst i1
    subst i2
    exact hfr
set_option maxHeartbeats 4000000 in
set_option maxRecDepth 100000 in
theorem fr_X11_month (M : mt_M) {r : Int32} {M' : mt_M} (hf : f_X11_month M = some (r, M')) : ∀ id : Nat, (147 ≤ id) → (M') id = M id := by
  unfold f_X11_month at hf
  have hfr : ∀ id : Nat, (147 ≤ id) → M id = M id := fun _ _ => rfl
  refine mt_b2I hf (fun r2 M3 hg1 hf => ?_)
  have hfr : ∀ id : Nat, (147 ≤ id) → M3 id = M id := fun id hid => (fr_X8_penceOfMonth M hg1 id (by omega)).trans (hfr id hid)
  obtain ⟨i1, i2⟩ := mt_so2 hf
  subst i1
  subst i2
  exact hfr
set_option maxHeartbeats 4000000 in
set_option maxRecDepth 100000 in
theorem fr_X11_swap (M : mt_M) {r : Int32} {M' : mt_M} (hf : f_X11_swap M = some (r, M')) : ∀ id : Nat, (147 ≤ id) → (M') id = M id := by
  unfold f_X11_swap at hf
  have hfr : ∀ id : Nat, (147 ≤ id) → M id = M id := fun _ _ => rfl
  refine mt_b2I hf (fun r2 M3 hg1 hf => ?_)
  have hfr : ∀ id : Nat, (147 ≤ id) → M3 id = M id := fun id hid => (fr_X8_bestSwap M hg1 id (by omega)).trans (hfr id hid)
  obtain ⟨i1, i2⟩ := mt_so2 hf
  subst i1
  subst i2
  exact hfr
set_option maxHeartbeats 4000000 in
set_option maxRecDepth 100000 in
theorem fr_X11_lots (a1 : Int32) (a2 : Int32) (a3 : Int32) (M : mt_M) {r : Int32} {M' : mt_M} (hf : f_X11_lots a1 a2 a3 M = some (r, M')) : ∀ id : Nat, (147 ≤ id) → (M') id = M id := by
  unfold f_X11_lots at hf
  have hfr : ∀ id : Nat, (147 ≤ id) → M id = M id := fun _ _ => rfl
  refine mt_b1I hf (fun r2 hg1 hf => ?_)
  refine mt_b1I hf (fun r4 hg3 hf => ?_)
  refine mt_b1I hf (fun r6 hg5 hf => ?_)
  by_cases c7 : r6 = 0
  · have hf := mt_ifT c7 hf
    refine mt_b2I hf (fun r9 M10 hg8 hf => ?_)
    have hfr : ∀ id : Nat, (147 ≤ id) → M10 id = M id := fun id hid => (fr_X8_weeksByLot a1 a2 a3 M hg8 id (by omega)).trans (hfr id hid)
    obtain ⟨i1, i2⟩ := mt_so2 hf
    subst i1
    subst i2
    exact hfr
  · have hf := mt_ifF c7 hf
    refine mt_b2I hf (fun r12 M13 hg11 hf => ?_)
    have hfr : ∀ id : Nat, (147 ≤ id) → M13 id = M id := fun id hid => (fr_X11_refuse r6 M hg11 id (by omega)).trans (hfr id hid)
    obtain ⟨i1, i2⟩ := mt_so2 hf
    subst i1
    subst i2
    exact hfr
set_option maxHeartbeats 4000000 in
set_option maxRecDepth 100000 in
theorem fr_X11_alike (a1 : Int32) (M : mt_M) {r : Int32} {M' : mt_M} (hf : f_X11_alike a1 M = some (r, M')) : ∀ id : Nat, (147 ≤ id) → (M') id = M id := by
  unfold f_X11_alike at hf
  have hfr : ∀ id : Nat, (147 ≤ id) → M id = M id := fun _ _ => rfl
  refine mt_b1I hf (fun r2 hg1 hf => ?_)
  by_cases c3 : r2 = 0
  · have hf := mt_ifT c3 hf
    refine mt_b2I hf (fun r11 M12 hg10 hf => ?_)
    have hfr : ∀ id : Nat, (147 ≤ id) → M12 id = M id := fun id hid => (fr_X11_refuse (-2 : Int32) M hg10 id (by omega)).trans (hfr id hid)
    obtain ⟨i1, i2⟩ := mt_so2 hf
    subst i1
    subst i2
    exact hfr
  · have hf := mt_ifF c3 hf
    by_cases c4 : a1 = 0
    · have hf := mt_ifT c4 hf
      refine mt_b1I hf (fun r9 hg8 hf => ?_)
      obtain ⟨i1, i2⟩ := mt_so2 hf
      subst i1
      subst i2
      exact hfr
    · have hf := mt_ifF c4 hf
      refine mt_b2I hf (fun r6 M7 hg5 hf => ?_)
      have hfr : ∀ id : Nat, (147 ≤ id) → M7 id = M id := fun id hid => (fr_X0_alikeLinks 13 M hg5 id (by omega)).trans (hfr id hid)
      obtain ⟨i1, i2⟩ := mt_so2 hf
      subst i1
      subst i2
      exact hfr
set_option maxHeartbeats 4000000 in
set_option maxRecDepth 100000 in
theorem fr_X11_unheard (a1 : Int32) (a2 : Int32) (a3 : Int32) (a4 : Int32) (M : mt_M) {r : Int32} {M' : mt_M} (hf : f_X11_unheard a1 a2 a3 a4 M = some (r, M')) : ∀ id : Nat, (147 ≤ id) → (M') id = M id := by
  unfold f_X11_unheard at hf
  have hfr : ∀ id : Nat, (147 ≤ id) → M id = M id := fun _ _ => rfl
  refine mt_b1I hf (fun r2 hg1 hf => ?_)
  refine mt_jn1 hf (fun (v3 : Int32) => (∀ id : Nat, (147 ≤ id) → M id = M id) → ∀ id : Nat, (147 ≤ id) → (M') id = M id) ?_ ?_
  · intro v3 hf hfr
    refine mt_b1I hf (fun r7 hg6 hf => ?_)
    refine mt_b1I hf (fun r9 hg8 hf => ?_)
    by_cases c10 : r9 = 0
    · have hf := mt_ifT c10 hf
      by_cases c11 : (4 : Int32) ≤ a4
      · have hf := mt_ifT c11 hf
        refine mt_lpI2 hf (fun (x12 : Int32) (x13 : Int32) => (∀ id : Nat, (147 ≤ id) → M id = M id) → ∀ id : Nat, (147 ≤ id) → (M') id = M id) ?_ hfr
        intro k14 ih15 x12 x13 hf hfr
        by_cases c16 : (4 : Int32) ≤ x13
        · have hf := mt_ifT c16 hf
          obtain ⟨i1, i2⟩ := mt_so2 hf
          subst i1
          subst i2
          exact hfr
        · have hf := mt_ifF c16 hf
          refine mt_b1I hf (fun r18 hg17 hf => ?_)
          refine mt_b1I hf (fun r20 hg19 hf => ?_)
          refine mt_jn1 hf (fun (x21 : Int32) => (∀ id : Nat, (147 ≤ id) → M id = M id) → ∀ id : Nat, (147 ≤ id) → (M') id = M id) ?_ ?_
          · intro x21 hf hfr
            refine mt_ltI hf (fun x24 _ hf => ?_)
            exact ih15 x21 x24 hf hfr
          · intro j22 hj23 hf
            by_cases c25 : r20 ≤ r18
            · have hf := mt_ifT c25 hf
              exact hj23 x12 hf hfr
            · have hf := mt_ifF c25 hf
              exact hj23 x13 hf hfr
      · have hf := mt_ifF c11 hf
        refine mt_b1I hf (fun r27 hg26 hf => ?_)
        obtain ⟨i1, i2⟩ := mt_so2 hf
        subst i1
        subst i2
        exact hfr
    · have hf := mt_ifF c10 hf
      refine mt_b2I hf (fun r29 M30 hg28 hf => ?_)
      have hfr : ∀ id : Nat, (147 ≤ id) → M30 id = M id := fun id hid => (fr_X11_refuse r9 M hg28 id (by omega)).trans (hfr id hid)
      obtain ⟨i1, i2⟩ := mt_so2 hf
      subst i1
      subst i2
      exact hfr
  · intro j4 hj5 hf
    by_cases c31 : r2 = 0
    · have hf := mt_ifT c31 hf
      exact hj5 (-1 : Int32) hf hfr
    · have hf := mt_ifF c31 hf
      refine mt_b1I hf (fun r33 hg32 hf => ?_)
      exact hj5 r33 hf hfr
set_option maxHeartbeats 4000000 in
set_option maxRecDepth 100000 in
theorem fr_X11_game (a1 : Int32) (M : mt_M) {r : Int32} {M' : mt_M} (hf : f_X11_game a1 M = some (r, M')) : ∀ id : Nat, (147 ≤ id) → (M') id = M id := by
  unfold f_X11_game at hf
  have hfr : ∀ id : Nat, (147 ≤ id) → M id = M id := fun _ _ => rfl
  refine mt_b1I hf (fun r2 hg1 hf => ?_)
  by_cases c3 : r2 = 0
  · have hf := mt_ifT c3 hf
    refine mt_b2I hf (fun r23 M24 hg22 hf => ?_)
    have hfr : ∀ id : Nat, (147 ≤ id) → M24 id = M id := fun id hid => (fr_X11_refuse (-1 : Int32) M hg22 id (by omega)).trans (hfr id hid)
    obtain ⟨i1, i2⟩ := mt_so2 hf
    subst i1
    subst i2
    exact hfr
  · have hf := mt_ifF c3 hf
    refine mt_lpI2 hf (fun (x4 : Int32) (x5 : Int32) => (∀ id : Nat, (147 ≤ id) → M id = M id) → ∀ id : Nat, (147 ≤ id) → (M') id = M id) ?_ hfr
    intro k6 ih7 x4 x5 hf hfr
    by_cases c8 : (4 : Int32) ≤ x5
    · have hf := mt_ifT c8 hf
      obtain ⟨i1, i2⟩ := mt_so2 hf
      subst i1
      subst i2
      exact hfr
    · have hf := mt_ifF c8 hf
      refine mt_b1I hf (fun r10 hg9 hf => ?_)
      refine mt_b1I hf (fun r12 hg11 hf => ?_)
      refine mt_jn1 hf (fun (x13 : Int32) => (∀ id : Nat, (147 ≤ id) → M id = M id) → ∀ id : Nat, (147 ≤ id) → (M') id = M id) ?_ ?_
      · intro x13 hf hfr
        refine mt_ltI hf (fun x16 _ hf => ?_)
        exact ih7 x13 x16 hf hfr
      · intro j14 hj15 hf
        by_cases c17 : r12 < r10
        · have hf := mt_ifT c17 hf
          exact hj15 x4 hf hfr
        · have hf := mt_ifF c17 hf
          refine mt_b1I hf (fun r19 hg18 hf => ?_)
          by_cases c20 : r19 < r10
          · have hf := mt_ifT c20 hf
            exact hj15 x4 hf hfr
          · have hf := mt_ifF c20 hf
            refine mt_ltI hf (fun x21 _ hf => ?_)
            exact hj15 x21 hf hfr
set_option maxHeartbeats 4000000 in
set_option maxRecDepth 100000 in
theorem fr_X11_all (a1 : Int32) (a2 : Int32) (a3 : Int32) (M : mt_M) {r : Int32} {M' : mt_M} (hf : f_X11_all a1 a2 a3 M = some (r, M')) : ∀ id : Nat, (147 ≤ id) → (M') id = M id := by
  unfold f_X11_all at hf
  have hfr : ∀ id : Nat, (147 ≤ id) → M id = M id := fun _ _ => rfl
  refine mt_b1I hf (fun r2 hg1 hf => ?_)
  refine mt_b1I hf (fun r4 hg3 hf => ?_)
  refine mt_b1I hf (fun r6 hg5 hf => ?_)
  by_cases c7 : r6 = 0
  · have hf := mt_ifT c7 hf
    refine mt_lpI3 hf (fun (x8 : Int32) (x9 : Int32) (x10 : Int32) => (∀ id : Nat, (147 ≤ id) → M id = M id) → ∀ id : Nat, (147 ≤ id) → (M') id = M id) ?_ hfr
    intro k11 ih12 x8 x9 x10 hf hfr
    by_cases c13 : (M 13 8) ≤ x10
    · have hf := mt_ifT c13 hf
      by_cases c14 : a3 = 0
      · have hf := mt_ifT c14 hf
        obtain ⟨i1, i2⟩ := mt_so2 hf
        subst i1
        subst i2
        exact hfr
      · have hf := mt_ifF c14 hf
        obtain ⟨i1, i2⟩ := mt_so2 hf
        subst i1
        subst i2
        exact hfr
    · have hf := mt_ifF c13 hf
      refine mt_b1I hf (fun r16 hg15 hf => ?_)
      refine mt_b1I hf (fun r18 hg17 hf => ?_)
      refine mt_jn1 hf (fun (v19 : Int32) => (∀ id : Nat, (147 ≤ id) → M id = M id) → ∀ id : Nat, (147 ≤ id) → (M') id = M id) ?_ ?_
      · intro v19 hf hfr
        refine mt_ltI hf (fun x22 _ hf => ?_)
        refine mt_ltI hf (fun x23 _ hf => ?_)
        refine mt_ltI hf (fun x24 _ hf => ?_)
        refine mt_ltI hf (fun x25 _ hf => ?_)
        exact ih12 x22 x24 x25 hf hfr
      · intro j20 hj21 hf
        by_cases c26 : r16 ≤ r18
        · have hf := mt_ifT c26 hf
          exact hj21 (0 : Int32) hf hfr
        · have hf := mt_ifF c26 hf
          exact hj21 ((1 : Int32) <<< (x10 &&& 31)) hf hfr
  · have hf := mt_ifF c7 hf
    refine mt_b2I hf (fun r28 M29 hg27 hf => ?_)
    have hfr : ∀ id : Nat, (147 ≤ id) → M29 id = M id := fun id hid => (fr_X11_refuse r6 M hg27 id (by omega)).trans (hfr id hid)
    obtain ⟨i1, i2⟩ := mt_so2 hf
    subst i1
    subst i2
    exact hfr
set_option maxHeartbeats 4000000 in
set_option maxRecDepth 100000 in
theorem fr_X11_flour (a1 : Int32) (a2 : Int32) (a3 : Int32) (a4 : Int32) (M : mt_M) {r : Int64} {M' : mt_M} (hf : f_X11_flour a1 a2 a3 a4 M = some (r, M')) : ∀ id : Nat, (147 ≤ id) → (M') id = M id := by
  unfold f_X11_flour at hf
  have hfr : ∀ id : Nat, (147 ≤ id) → M id = M id := fun _ _ => rfl
  refine mt_jn0 hf ((∀ id : Nat, (147 ≤ id) → M id = M id) → ∀ id : Nat, (147 ≤ id) → (M') id = M id) ?_ ?_
  · intro hf hfr
    refine mt_b2I hf (fun r4 M5 hg3 hf => ?_)
    have hfr : ∀ id : Nat, (147 ≤ id) → M5 id = M id := fun id hid => (fr_X11_refuseLong (-4 : Int32) M hg3 id (by omega)).trans (hfr id hid)
    obtain ⟨i1, i2⟩ := mt_so2 hf
    subst i1
    subst i2
    exact hfr
  · intro j1 hj2 hf
    by_cases c6 : a1 < 0
    · have hf := mt_ifT c6 hf
      exact hj2 hf hfr
    · have hf := mt_ifF c6 hf
      by_cases c7 : a2 < 0
      · have hf := mt_ifT c7 hf
        exact hj2 hf hfr
      · have hf := mt_ifF c7 hf
        by_cases c8 : 0 ≤ a3
        · have hf := mt_ifT c8 hf
          refine mt_jn0 hf ((∀ id : Nat, (147 ≤ id) → M id = M id) → ∀ id : Nat, (147 ≤ id) → (M') id = M id) ?_ ?_
          · intro hf hfr
            refine mt_b2I hf (fun r12 M13 hg11 hf => ?_)
            have hfr : ∀ id : Nat, (147 ≤ id) → M13 id = M id := fun id hid => (fr_X11_refuseLong (-6 : Int32) M hg11 id (by omega)).trans (hfr id hid)
            obtain ⟨i1, i2⟩ := mt_so2 hf
            subst i1
            subst i2
            exact hfr
          · intro j9 hj10 hf
            by_cases c14 : (9 : Int32) < a1
            · have hf := mt_ifT c14 hf
              exact hj10 hf hfr
            · have hf := mt_ifF c14 hf
              by_cases c15 : (12 : Int32) < a2
              · have hf := mt_ifT c15 hf
                exact hj10 hf hfr
              · have hf := mt_ifF c15 hf
                by_cases c16 : a3 ≤ (10 : Int32)
                · have hf := mt_ifT c16 hf
                  refine mt_b1I hf (fun r18 hg17 hf => ?_)
                  by_cases c19 : r18 = 0
                  · have hf := mt_ifT c19 hf
                    refine mt_b2I hf (fun r42 M43 hg41 hf => ?_)
                    have hfr : ∀ id : Nat, (147 ≤ id) → M43 id = M id := fun id hid => (fr_X11_refuseLong (-2 : Int32) M hg41 id (by omega)).trans (hfr id hid)
                    obtain ⟨i1, i2⟩ := mt_so2 hf
                    subst i1
                    subst i2
                    exact hfr
                  · have hf := mt_ifF c19 hf
                    refine mt_lpI3 hf (fun (x20 : Int64) (x21 : Int64) (x22 : Int32) => (∀ id : Nat, (147 ≤ id) → M id = M id) → ∀ id : Nat, (147 ≤ id) → (M') id = M id) ?_ hfr
                    intro k23 ih24 x20 x21 x22 hf hfr
                    refine mt_jn0 hf ((∀ id : Nat, (147 ≤ id) → M id = M id) → ∀ id : Nat, (147 ≤ id) → (M') id = M id) ?_ ?_
                    · intro hf hfr
                      refine mt_b1I hf (fun r28 hg27 hf => ?_)
                      refine mt_b1I hf (fun r30 hg29 hf => ?_)
                      obtain ⟨i1, i2⟩ := mt_so2 hf
                      subst i1
                      subst i2
                      exact hfr
                    · intro j25 hj26 hf
                      by_cases c31 : a1 ≤ x22
                      · have hf := mt_ifT c31 hf
                        exact hj26 hf hfr
                      · have hf := mt_ifF c31 hf
                        by_cases c32 : a2 < x22
                        · have hf := mt_ifT c32 hf
                          exact hj26 hf hfr
                        · have hf := mt_ifF c32 hf
                          refine mt_b1I hf (fun r34 hg33 hf => ?_)
                          refine mt_b1I hf (fun r36 hg35 hf => ?_)
                          refine mt_ltI hf (fun x37 _ hf => ?_)
                          refine mt_ckI hf (fun _ hf => ?_)
                          refine mt_ltI hf (fun x39 _ hf => ?_)
                          refine mt_ltI hf (fun x40 _ hf => ?_)
                          exact ih24 x37 x39 x40 hf hfr
                · have hf := mt_ifF c16 hf
                  exact hj10 hf hfr
        · have hf := mt_ifF c8 hf
          exact hj2 hf hfr
set_option maxHeartbeats 4000000 in
set_option maxRecDepth 100000 in
theorem fr_X11_sure (a1 : Int32) (a2 : Int32) (a3 : Int32) (M : mt_M) {r : Int64} {M' : mt_M} (hf : f_X11_sure a1 a2 a3 M = some (r, M')) : ∀ id : Nat, (147 ≤ id) → (M') id = M id := by
  unfold f_X11_sure at hf
  have hfr : ∀ id : Nat, (147 ≤ id) → M id = M id := fun _ _ => rfl
  refine mt_b1I hf (fun r2 hg1 hf => ?_)
  refine mt_b1I hf (fun r4 hg3 hf => ?_)
  refine mt_jn1 hf (fun (v5 : Int32) => (∀ id : Nat, (147 ≤ id) → M id = M id) → ∀ id : Nat, (147 ≤ id) → (M') id = M id) ?_ ?_
  · intro v5 hf hfr
    refine mt_b1I hf (fun r9 hg8 hf => ?_)
    by_cases c10 : r9 = 0
    · have hf := mt_ifT c10 hf
      refine mt_jn1 hf (fun (v11 : Int32) => (∀ id : Nat, (147 ≤ id) → M id = M id) → ∀ id : Nat, (147 ≤ id) → (M') id = M id) ?_ ?_
      · intro v11 hf hfr
        refine mt_ltI hf (fun x14 _ hf => ?_)
        refine mt_jn1 hf (fun (v15 : Int64) => (∀ id : Nat, (147 ≤ id) → M id = M id) → ∀ id : Nat, (147 ≤ id) → (M') id = M id) ?_ ?_
        · intro v15 hf hfr
          refine mt_b1I hf (fun r19 hg18 hf => ?_)
          obtain ⟨i1, i2⟩ := mt_so2 hf
          subst i1
          subst i2
          exact hfr
        · intro j16 hj17 hf
          by_cases c20 : a2 = (1 : Int32)
          · have hf := mt_ifT c20 hf
            exact hj17 (1 : Int64) hf hfr
          · have hf := mt_ifF c20 hf
            exact hj17 (9 : Int64) hf hfr
      · intro j12 hj13 hf
        by_cases c21 : a2 = (1 : Int32)
        · have hf := mt_ifT c21 hf
          exact hj13 (9 : Int32) hf hfr
        · have hf := mt_ifF c21 hf
          exact hj13 (1 : Int32) hf hfr
    · have hf := mt_ifF c10 hf
      refine mt_b2I hf (fun r23 M24 hg22 hf => ?_)
      have hfr : ∀ id : Nat, (147 ≤ id) → M24 id = M id := fun id hid => (fr_X11_refuseLong r9 M hg22 id (by omega)).trans (hfr id hid)
      obtain ⟨i1, i2⟩ := mt_so2 hf
      subst i1
      subst i2
      exact hfr
  · intro j6 hj7 hf
    refine mt_jn0 hf ((∀ id : Nat, (147 ≤ id) → M id = M id) → ∀ id : Nat, (147 ≤ id) → (M') id = M id) ?_ ?_
    · intro hf hfr
      exact hj7 (0 : Int32) hf hfr
    · intro j25 hj26 hf
      by_cases c27 : r4 = 0
      · have hf := mt_ifT c27 hf
        exact hj26 hf hfr
      · have hf := mt_ifF c27 hf
        refine mt_b1I hf (fun r29 hg28 hf => ?_)
        by_cases c30 : r29 = 0
        · have hf := mt_ifT c30 hf
          exact hj26 hf hfr
        · have hf := mt_ifF c30 hf
          exact hj7 (1 : Int32) hf hfr
set_option maxHeartbeats 4000000 in
set_option maxRecDepth 100000 in
theorem fr_X11_bars (a1 : Int32) (a2 : Int32) (a3 : Int32) (M : mt_M) {r : Int32} {M' : mt_M} (hf : f_X11_bars a1 a2 a3 M = some (r, M')) : ∀ id : Nat, (147 ≤ id) → (M') id = M id := by
  unfold f_X11_bars at hf
  have hfr : ∀ id : Nat, (147 ≤ id) → M id = M id := fun _ _ => rfl
  refine mt_jn0 hf ((∀ id : Nat, (147 ≤ id) → M id = M id) → ∀ id : Nat, (147 ≤ id) → (M') id = M id) ?_ ?_
  · intro hf hfr
    refine mt_b2I hf (fun r4 M5 hg3 hf => ?_)
    have hfr : ∀ id : Nat, (147 ≤ id) → M5 id = M id := fun id hid => (fr_X11_refuse (-4 : Int32) M hg3 id (by omega)).trans (hfr id hid)
    obtain ⟨i1, i2⟩ := mt_so2 hf
    subst i1
    subst i2
    exact hfr
  · intro j1 hj2 hf
    by_cases c6 : a1 < (2 : Int32)
    · have hf := mt_ifT c6 hf
      exact hj2 hf hfr
    · have hf := mt_ifF c6 hf
      by_cases c7 : a2 < (1 : Int32)
      · have hf := mt_ifT c7 hf
        exact hj2 hf hfr
      · have hf := mt_ifF c7 hf
        by_cases c8 : 0 ≤ a3
        · have hf := mt_ifT c8 hf
          refine mt_jn0 hf ((∀ id : Nat, (147 ≤ id) → M id = M id) → ∀ id : Nat, (147 ≤ id) → (M') id = M id) ?_ ?_
          · intro hf hfr
            refine mt_b2I hf (fun r12 M13 hg11 hf => ?_)
            have hfr : ∀ id : Nat, (147 ≤ id) → M13 id = M id := fun id hid => (fr_X11_refuse (-6 : Int32) M hg11 id (by omega)).trans (hfr id hid)
            obtain ⟨i1, i2⟩ := mt_so2 hf
            subst i1
            subst i2
            exact hfr
          · intro j9 hj10 hf
            by_cases c14 : (20 : Int32) < a1
            · have hf := mt_ifT c14 hf
              exact hj10 hf hfr
            · have hf := mt_ifF c14 hf
              by_cases c15 : (9 : Int32) < a2
              · have hf := mt_ifT c15 hf
                exact hj10 hf hfr
              · have hf := mt_ifF c15 hf
                by_cases c16 : a3 ≤ (99 : Int32)
                · have hf := mt_ifT c16 hf
                  refine mt_ckI hf (fun _ hf => ?_)
                  by_cases c18 : (a3 / a1) ≤ a2
                  · have hf := mt_ifT c18 hf
                    obtain ⟨i1, i2⟩ := mt_so2 hf
                    subst i1
                    subst i2
                    exact hfr
                  · have hf := mt_ifF c18 hf
                    obtain ⟨i1, i2⟩ := mt_so2 hf
                    subst i1
                    subst i2
                    exact hfr
                · have hf := mt_ifF c16 hf
                  exact hj10 hf hfr
        · have hf := mt_ifF c8 hf
          exact hj2 hf hfr
set_option maxHeartbeats 4000000 in
set_option maxRecDepth 100000 in
theorem fr_X11_row (a1 : Int32) (M : mt_M) {r : Int32} {M' : mt_M} (hf : f_X11_row a1 M = some (r, M')) : ∀ id : Nat, (147 ≤ id) → (M') id = M id := by
  unfold f_X11_row at hf
  have hfr : ∀ id : Nat, (147 ≤ id) → M id = M id := fun _ _ => rfl
  refine mt_b1I hf (fun r2 hg1 hf => ?_)
  refine mt_jn1 hf (fun (v3 : Int32) => (∀ id : Nat, (147 ≤ id) → M id = M id) → ∀ id : Nat, (147 ≤ id) → (M') id = M id) ?_ ?_
  · intro v3 hf hfr
    refine mt_b1I hf (fun r7 hg6 hf => ?_)
    by_cases c8 : r7 = 0
    · have hf := mt_ifT c8 hf
      refine mt_ciI hf (fun _ hf => ?_)
      refine mt_ltI hf (fun M9 eM9 hf => ?_)
      have hfr : ∀ id : Nat, (147 ≤ id) → M9 id = M id := fun id hid => (by rw [eM9]; exact mt_mu_ne (by omega) : M9 id = M id).trans (hfr id hid)
      refine mt_ltI hf (fun M11 eM11 hf => ?_)
      have hfr : ∀ id : Nat, (147 ≤ id) → M11 id = M id := fun id hid => (by rw [eM11]; exact mt_mu_ne (by omega) : M11 id = M9 id).trans (hfr id hid)
      obtain ⟨i1, i2⟩ := mt_so2 hf
      subst i1
      subst i2
      exact hfr
    · have hf := mt_ifF c8 hf
      refine mt_b2I hf (fun r13 M14 hg12 hf => ?_)
      have hfr : ∀ id : Nat, (147 ≤ id) → M14 id = M id := fun id hid => (fr_X11_refuse r7 M hg12 id (by omega)).trans (hfr id hid)
      obtain ⟨i1, i2⟩ := mt_so2 hf
      subst i1
      subst i2
      exact hfr
  · intro j4 hj5 hf
    by_cases c15 : (Int32.ofNat 12) ≤ (M 0 8)
    · have hf := mt_ifT c15 hf
      exact hj5 (0 : Int32) hf hfr
    · have hf := mt_ifF c15 hf
      exact hj5 (1 : Int32) hf hfr
set_option maxHeartbeats 4000000 in
set_option maxRecDepth 100000 in
theorem fr_X11_clear (M : mt_M) {r : Int32} {M' : mt_M} (hf : f_X11_clear M = some (r, M')) : ∀ id : Nat, (147 ≤ id) → (M') id = M id := by
  unfold f_X11_clear at hf
  have hfr : ∀ id : Nat, (147 ≤ id) → M id = M id := fun _ _ => rfl
  refine mt_ltI hf (fun x1 _ hf => ?_)
  refine mt_ltI hf (fun M2 eM2 hf => ?_)
  have hfr : ∀ id : Nat, (147 ≤ id) → M2 id = M id := fun id hid => (by rw [eM2]; exact mt_mu_ne (by omega) : M2 id = M id).trans (hfr id hid)
  obtain ⟨i1, i2⟩ := mt_so2 hf
  subst i1
  subst i2
  exact hfr
set_option maxHeartbeats 4000000 in
set_option maxRecDepth 100000 in
theorem fr_X11_judge (a1 : Int32) (M : mt_M) {r : Int32} {M' : mt_M} (hf : f_X11_judge a1 M = some (r, M')) : ∀ id : Nat, (147 ≤ id) → (M') id = M id := by
  unfold f_X11_judge at hf
  have hfr : ∀ id : Nat, (147 ≤ id) → M id = M id := fun _ _ => rfl
  refine mt_b1I hf (fun r2 hg1 hf => ?_)
  by_cases c3 : r2 = 0
  · have hf := mt_ifT c3 hf
    refine mt_b2I hf (fun r24 M25 hg23 hf => ?_)
    have hfr : ∀ id : Nat, (147 ≤ id) → M25 id = M id := fun id hid => (fr_X11_refuse (-1 : Int32) M hg23 id (by omega)).trans (hfr id hid)
    obtain ⟨i1, i2⟩ := mt_so2 hf
    subst i1
    subst i2
    exact hfr
  · have hf := mt_ifF c3 hf
    refine mt_lpI3 hf (fun (x4 : Int32) (x5 : Int32) (M6 : mt_M) => (∀ id : Nat, (147 ≤ id) → M6 id = M id) → ∀ id : Nat, (147 ≤ id) → (M') id = M id) ?_ hfr
    intro k7 ih8 x4 x5 M6 hf hfr
    refine mt_jn0 hf ((∀ id : Nat, (147 ≤ id) → M6 id = M id) → ∀ id : Nat, (147 ≤ id) → (M') id = M id) ?_ ?_
    · intro hf hfr
      refine mt_ltI hf (fun M11 eM11 hf => ?_)
      have hfr : ∀ id : Nat, (147 ≤ id) → M11 id = M id := fun id hid => (by rw [eM11]; exact mt_mu_ne (by omega) : M11 id = M6 id).trans (hfr id hid)
      obtain ⟨i1, i2⟩ := mt_so2 hf
      subst i1
      subst i2
      exact hfr
    · intro j9 hj10 hf
      by_cases c12 : (M6 0 8) ≤ x5
      · have hf := mt_ifT c12 hf
        exact hj10 hf hfr
      · have hf := mt_ifF c12 hf
        by_cases c13 : x4 = (-9 : Int32)
        · have hf := mt_ifT c13 hf
          refine mt_ciI hf (fun _ hf => ?_)
          refine mt_b2I hf (fun r16 M17 hg15 hf => ?_)
          have hfr : ∀ id : Nat, (147 ≤ id) → M17 id = M id := fun id hid => (fr_X8_stockBehind a1 x5 M6 hg15 id (by omega)).trans (hfr id hid)
          refine mt_jn1 hf (fun (x18 : Int32) => (∀ id : Nat, (147 ≤ id) → M17 id = M id) → ∀ id : Nat, (147 ≤ id) → (M') id = M id) ?_ ?_
          · intro x18 hf hfr
            refine mt_ltI hf (fun x21 _ hf => ?_)
            exact ih8 x18 x21 M17 hf hfr
          · intro j19 hj20 hf
            by_cases c22 : (M6 1 x5.toNatClampNeg) = r16
            · have hf := mt_ifT c22 hf
              exact hj20 x4 hf hfr
            · have hf := mt_ifF c22 hf
              exact hj20 x5 hf hfr
        · have hf := mt_ifF c13 hf
          exact hj10 hf hfr
set_option maxHeartbeats 4000000 in
set_option maxRecDepth 100000 in
theorem fr_X11_biscuits (a1 : Int32) (M : mt_M) {r : Int32} {M' : mt_M} (hf : f_X11_biscuits a1 M = some (r, M')) : ∀ id : Nat, (147 ≤ id) → (M') id = M id := by
  unfold f_X11_biscuits at hf
  have hfr : ∀ id : Nat, (147 ≤ id) → M id = M id := fun _ _ => rfl
  refine mt_b1I hf (fun r2 hg1 hf => ?_)
  by_cases c3 : r2 = 0
  · have hf := mt_ifT c3 hf
    refine mt_b2I hf (fun r38 M39 hg37 hf => ?_)
    have hfr : ∀ id : Nat, (147 ≤ id) → M39 id = M id := fun id hid => (fr_X11_refuse (-2 : Int32) M hg37 id (by omega)).trans (hfr id hid)
    obtain ⟨i1, i2⟩ := mt_so2 hf
    subst i1
    subst i2
    exact hfr
  · have hf := mt_ifF c3 hf
    refine mt_lpI1 hf (fun (x4 : Int32) => (∀ id : Nat, (147 ≤ id) → M id = M id) → ∀ id : Nat, (147 ≤ id) → (M') id = M id) ?_ hfr
    intro k5 ih6 x4 hf hfr
    by_cases c7 : (M 0 8) ≤ x4
    · have hf := mt_ifT c7 hf
      refine mt_lpI4 hf (fun (x8 : Int32) (x9 : Int32) (x10 : Int32) (x11 : Int32) => (∀ id : Nat, (147 ≤ id) → M id = M id) → ∀ id : Nat, (147 ≤ id) → (M') id = M id) ?_ hfr
      intro k12 ih13 x8 x9 x10 x11 hf hfr
      by_cases c14 : (7 : Int32) ≤ x11
      · have hf := mt_ifT c14 hf
        by_cases c15 : a1 = 0
        · have hf := mt_ifT c15 hf
          obtain ⟨i1, i2⟩ := mt_so2 hf
          subst i1
          subst i2
          exact hfr
        · have hf := mt_ifF c15 hf
          obtain ⟨i1, i2⟩ := mt_so2 hf
          subst i1
          subst i2
          exact hfr
      · have hf := mt_ifF c14 hf
        refine mt_b1I hf (fun r17 hg16 hf => ?_)
        refine mt_jn1 hf (fun (v18 : Int32) => (∀ id : Nat, (147 ≤ id) → M id = M id) → ∀ id : Nat, (147 ≤ id) → (M') id = M id) ?_ ?_
        · intro v18 hf hfr
          refine mt_ltI hf (fun x21 _ hf => ?_)
          refine mt_jn2 hf (fun (x22 : Int32) (x23 : Int32) => (∀ id : Nat, (147 ≤ id) → M id = M id) → ∀ id : Nat, (147 ≤ id) → (M') id = M id) ?_ ?_
          · intro x22 x23 hf hfr
            refine mt_ltI hf (fun x26 _ hf => ?_)
            exact ih13 x21 x22 x23 x26 hf hfr
          · intro j24 hj25 hf
            by_cases c27 : r17 ≤ x9
            · have hf := mt_ifT c27 hf
              exact hj25 x9 x10 hf hfr
            · have hf := mt_ifF c27 hf
              exact hj25 r17 x11 hf hfr
        · intro j19 hj20 hf
          by_cases c28 : r17 ≤ 0
          · have hf := mt_ifT c28 hf
            exact hj20 (0 : Int32) hf hfr
          · have hf := mt_ifF c28 hf
            exact hj20 (1 : Int32) hf hfr
    · have hf := mt_ifF c7 hf
      refine mt_ciI hf (fun _ hf => ?_)
      refine mt_b1I hf (fun r31 hg30 hf => ?_)
      by_cases c32 : r31 = 0
      · have hf := mt_ifT c32 hf
        refine mt_b2I hf (fun r35 M36 hg34 hf => ?_)
        have hfr : ∀ id : Nat, (147 ≤ id) → M36 id = M id := fun id hid => (fr_X11_refuse (-3 : Int32) M hg34 id (by omega)).trans (hfr id hid)
        obtain ⟨i1, i2⟩ := mt_so2 hf
        subst i1
        subst i2
        exact hfr
      · have hf := mt_ifF c32 hf
        refine mt_ltI hf (fun x33 _ hf => ?_)
        exact ih6 x33 hf hfr
set_option maxHeartbeats 4000000 in
set_option maxRecDepth 100000 in
theorem fr_X11_fridge (a1 : Int32) (a2 : Int32) (M : mt_M) {r : Int32} {M' : mt_M} (hf : f_X11_fridge a1 a2 M = some (r, M')) : ∀ id : Nat, (147 ≤ id) → (M') id = M id := by
  unfold f_X11_fridge at hf
  have hfr : ∀ id : Nat, (147 ≤ id) → M id = M id := fun _ _ => rfl
  refine mt_b1I hf (fun r2 hg1 hf => ?_)
  refine mt_b1I hf (fun r4 hg3 hf => ?_)
  refine mt_b1I hf (fun r6 hg5 hf => ?_)
  refine mt_b1I hf (fun r8 hg7 hf => ?_)
  refine mt_b1I hf (fun r10 hg9 hf => ?_)
  by_cases c11 : r10 = 0
  · have hf := mt_ifT c11 hf
    refine mt_ltI hf (fun x12 _ hf => ?_)
    refine mt_ltI hf (fun x13 _ hf => ?_)
    refine mt_lpI3 hf (fun (x14 : Int32) (x15 : Int32) (x16 : Int32) => (∀ id : Nat, (147 ≤ id) → M id = M id) → ∀ id : Nat, (147 ≤ id) → (M') id = M id) ?_ hfr
    intro k17 ih18 x14 x15 x16 hf hfr
    by_cases c19 : x16 < 0
    · have hf := mt_ifT c19 hf
      by_cases c20 : a2 = 0
      · have hf := mt_ifT c20 hf
        obtain ⟨i1, i2⟩ := mt_so2 hf
        subst i1
        subst i2
        exact hfr
      · have hf := mt_ifF c20 hf
        obtain ⟨i1, i2⟩ := mt_so2 hf
        subst i1
        subst i2
        exact hfr
    · have hf := mt_ifF c19 hf
      refine mt_b1I hf (fun r22 hg21 hf => ?_)
      refine mt_jn2 hf (fun (x23 : Int32) (x24 : Int32) => (∀ id : Nat, (147 ≤ id) → M id = M id) → ∀ id : Nat, (147 ≤ id) → (M') id = M id) ?_ ?_
      · intro x23 x24 hf hfr
        refine mt_ltI hf (fun x27 _ hf => ?_)
        exact ih18 x23 x24 x27 hf hfr
      · intro j25 hj26 hf
        by_cases c28 : r22 = a1
        · have hf := mt_ifT c28 hf
          refine mt_ltI hf (fun x29 _ hf => ?_)
          exact hj26 x29 x16 hf hfr
        · have hf := mt_ifF c28 hf
          exact hj26 x14 x15 hf hfr
  · have hf := mt_ifF c11 hf
    refine mt_b2I hf (fun r31 M32 hg30 hf => ?_)
    have hfr : ∀ id : Nat, (147 ≤ id) → M32 id = M id := fun id hid => (fr_X11_refuse r10 M hg30 id (by omega)).trans (hfr id hid)
    obtain ⟨i1, i2⟩ := mt_so2 hf
    subst i1
    subst i2
    exact hfr
set_option maxHeartbeats 4000000 in
set_option maxRecDepth 100000 in
theorem fr_X11_image (M : mt_M) {r : Int32} {M' : mt_M} (hf : f_X11_image M = some (r, M')) : ∀ id : Nat, (147 ≤ id) → (M') id = M id := by
  unfold f_X11_image at hf
  have hfr : ∀ id : Nat, (147 ≤ id) → M id = M id := fun _ _ => rfl
  refine mt_b1I hf (fun M2 hg1 hf => ?_)
  have hfr : ∀ id : Nat, (147 ≤ id) → M2 id = M id := fun id hid => (fr_X4_become 32 10 M hg1 id (by omega)).trans (hfr id hid)
  refine mt_ltI hf (fun M3 eM3 hf => ?_)
  have hfr : ∀ id : Nat, (147 ≤ id) → M3 id = M id := fun id hid => (by rw [eM3]; exact mt_mu_ne (by omega) : M3 id = M2 id).trans (hfr id hid)
  obtain ⟨i1, i2⟩ := mt_so2 hf
  subst i1
  subst i2
  exact hfr
set_option maxHeartbeats 4000000 in
set_option maxRecDepth 100000 in
theorem fr_X11_restore (M : mt_M) {r : Int32} {M' : mt_M} (hf : f_X11_restore M = some (r, M')) : ∀ id : Nat, (147 ≤ id) → (M') id = M id := by
  unfold f_X11_restore at hf
  have hfr : ∀ id : Nat, (147 ≤ id) → M id = M id := fun _ _ => rfl
  by_cases c1 : (M 0 3) = 0
  · have hf := mt_ifT c1 hf
    refine mt_b2I hf (fun r7 M8 hg6 hf => ?_)
    have hfr : ∀ id : Nat, (147 ≤ id) → M8 id = M id := fun id hid => (fr_X11_refuse (-3 : Int32) M hg6 id (by omega)).trans (hfr id hid)
    obtain ⟨i1, i2⟩ := mt_so2 hf
    subst i1
    subst i2
    exact hfr
  · have hf := mt_ifF c1 hf
    refine mt_b1I hf (fun M3 hg2 hf => ?_)
    have hfr : ∀ id : Nat, (147 ≤ id) → M3 id = M id := fun id hid => (fr_X4_become 10 32 M hg2 id (by omega)).trans (hfr id hid)
    refine mt_b1I hf (fun M5 hg4 hf => ?_)
    have hfr : ∀ id : Nat, (147 ≤ id) → M5 id = M id := fun id hid => (fr_X3_forget M3 hg4 id (by omega)).trans (hfr id hid)
    obtain ⟨i1, i2⟩ := mt_so2 hf
    subst i1
    subst i2
    exact hfr
set_option maxHeartbeats 4000000 in
set_option maxRecDepth 100000 in
theorem fr_X12_no (a1 : Int32) (M : mt_M) {r : Int32} {M' : mt_M} (hf : f_X12_no a1 M = some (r, M')) : ∀ id k : Nat, (id ≠ 148) → (M') id k = M id k := by
  unfold f_X12_no at hf
  have hfr : ∀ id k : Nat, (id ≠ 148) → M id k = M id k := fun _ _ _ => rfl
  refine mt_ciI hf (fun _ hf => ?_)
  refine mt_ciI hf (fun _ hf => ?_)
  refine mt_ltI hf (fun M2 eM2 hf => ?_)
  have hfr : ∀ id k : Nat, (id ≠ 148) → M2 id k = M id k := fun id k hid => (by rw [eM2]; exact mt_wr_ne2 (by omega) : M2 id k = M id k).trans (hfr id k hid)
  obtain ⟨i1, i2⟩ := mt_so2 hf
  subst i1
  subst i2
  exact hfr
set_option maxHeartbeats 4000000 in
set_option maxRecDepth 100000 in
theorem fr_X12_lowest (a1 : Int32) (M : mt_M) {r : Int64} {M' : mt_M} (hf : f_X12_lowest a1 M = some (r, M')) : ∀ id k : Nat, (id ≠ 148) → (M') id k = M id k := by
  unfold f_X12_lowest at hf
  have hfr : ∀ id k : Nat, (id ≠ 148) → M id k = M id k := fun _ _ _ => rfl
  refine mt_ciI hf (fun _ hf => ?_)
  refine mt_ciI hf (fun _ hf => ?_)
  refine mt_ltI hf (fun M2 eM2 hf => ?_)
  have hfr : ∀ id k : Nat, (id ≠ 148) → M2 id k = M id k := fun id k hid => (by rw [eM2]; exact mt_wr_ne2 (by omega) : M2 id k = M id k).trans (hfr id k hid)
  obtain ⟨i1, i2⟩ := mt_so2 hf
  subst i1
  subst i2
  exact hfr
set_option maxHeartbeats 4000000 in
set_option maxRecDepth 100000 in
theorem fr_X12_feed (a1 : Int32) (M : mt_M) {r : Int32} {M' : mt_M} (hf : f_X12_feed a1 M = some (r, M')) : ∀ id k : Nat, ((id ≠ 147 ∨ k ≠ 16) ∧ id ≠ 148 ∧ id ≠ 156) → (M') id k = M id k := by
  unfold f_X12_feed at hf
  have hfr : ∀ id k : Nat, ((id ≠ 147 ∨ k ≠ 16) ∧ id ≠ 148 ∧ id ≠ 156) → M id k = M id k := fun _ _ _ => rfl
  refine mt_b1I hf (fun r2 hg1 hf => ?_)
  refine mt_jn1 hf (fun (x3 : Int32) => (∀ id k : Nat, ((id ≠ 147 ∨ k ≠ 16) ∧ id ≠ 148 ∧ id ≠ 156) → M id k = M id k) → ∀ id k : Nat, ((id ≠ 147 ∨ k ≠ 16) ∧ id ≠ 148 ∧ id ≠ 156) → (M') id k = M id k) ?_ ?_
  · intro x3 hf hfr
    by_cases c6 : x3 = 0
    · have hf := mt_ifT c6 hf
      refine mt_ciI hf (fun _ hf => ?_)
      refine mt_ltI hf (fun M7 eM7 hf => ?_)
      have hfr : ∀ id k : Nat, ((id ≠ 147 ∨ k ≠ 16) ∧ id ≠ 148 ∧ id ≠ 156) → M7 id k = M id k := fun id k hid => (by rw [eM7]; exact mt_wr_ne2 (by omega) : M7 id k = M id k).trans (hfr id k hid)
      refine mt_ltI hf (fun M9 eM9 hf => ?_)
      have hfr : ∀ id k : Nat, ((id ≠ 147 ∨ k ≠ 16) ∧ id ≠ 148 ∧ id ≠ 156) → M9 id k = M id k := fun id k hid => (by rw [eM9]; exact mt_wr_ne2 (by omega) : M9 id k = M7 id k).trans (hfr id k hid)
      obtain ⟨i1, i2⟩ := mt_so2 hf
      subst i1
      subst i2
      exact hfr
    · have hf := mt_ifF c6 hf
      refine mt_b2I hf (fun r11 M12 hg10 hf => ?_)
      have hfr : ∀ id k : Nat, ((id ≠ 147 ∨ k ≠ 16) ∧ id ≠ 148 ∧ id ≠ 156) → M12 id k = M id k := fun id k hid => (fr_X12_no x3 M hg10 id k (by omega)).trans (hfr id k hid)
      obtain ⟨i1, i2⟩ := mt_so2 hf
      subst i1
      subst i2
      exact hfr
  · intro j4 hj5 hf
    by_cases c13 : r2 = 0
    · have hf := mt_ifT c13 hf
      by_cases c14 : (M 147 16) = (96 : Int32)
      · have hf := mt_ifT c14 hf
        exact hj5 (-6 : Int32) hf hfr
      · have hf := mt_ifF c14 hf
        exact hj5 r2 hf hfr
    · have hf := mt_ifF c13 hf
      exact hj5 r2 hf hfr
set_option maxHeartbeats 4000000 in
set_option maxRecDepth 100000 in
theorem fr_X12_readsDigits (a1 : Int32) (a2 : Int32) (M : mt_M) {r : Int32} {M' : mt_M} (hf : f_X12_readsDigits a1 a2 M = some (r, M')) : ∀ id k : Nat, ((id ≠ 147 ∨ k ≠ 17) ∧ id ≠ 159) → (M') id k = M id k := by
  unfold f_X12_readsDigits at hf
  have hfr : ∀ id k : Nat, ((id ≠ 147 ∨ k ≠ 17) ∧ id ≠ 159) → M id k = M id k := fun _ _ _ => rfl
  refine mt_lpI3 hf (fun (x1 : Int32) (x2 : Int32) (M3 : mt_M) => (∀ id k : Nat, ((id ≠ 147 ∨ k ≠ 17) ∧ id ≠ 159) → M3 id k = M id k) → ∀ id k : Nat, ((id ≠ 147 ∨ k ≠ 17) ∧ id ≠ 159) → (M') id k = M id k) ?_ hfr
  intro k4 ih5 x1 x2 M3 hf hfr
  by_cases c6 : a2 ≤ x2
  · have hf := mt_ifT c6 hf
    refine mt_ciI hf (fun _ hf => ?_)
    refine mt_ltI hf (fun M7 eM7 hf => ?_)
    have hfr : ∀ id k : Nat, ((id ≠ 147 ∨ k ≠ 17) ∧ id ≠ 159) → M7 id k = M id k := fun id k hid => (by rw [eM7]; exact mt_wr_ne2 (by omega) : M7 id k = M3 id k).trans (hfr id k hid)
    obtain ⟨i1, i2⟩ := mt_so2 hf
    subst i1
    subst i2
    exact hfr
  · have hf := mt_ifF c6 hf
    refine mt_b1I hf (fun r10 hg9 hf => ?_)
    refine mt_b1I hf (fun r12 hg11 hf => ?_)
    by_cases c13 : r12 = 0
    · have hf := mt_ifT c13 hf
      obtain ⟨i1, i2⟩ := mt_so2 hf
      subst i1
      subst i2
      exact hfr
    · have hf := mt_ifF c13 hf
      refine mt_b1I hf (fun r15 hg14 hf => ?_)
      refine mt_ltI hf (fun x16 _ hf => ?_)
      refine mt_ltI hf (fun M17 eM17 hf => ?_)
      have hfr : ∀ id k : Nat, ((id ≠ 147 ∨ k ≠ 17) ∧ id ≠ 159) → M17 id k = M id k := fun id k hid => (by rw [eM17]; exact mt_wr_ne2 (by omega) : M17 id k = M3 id k).trans (hfr id k hid)
      refine mt_ltI hf (fun x18 _ hf => ?_)
      exact ih5 x16 x18 M17 hf hfr
set_option maxHeartbeats 4000000 in
set_option maxRecDepth 100000 in
theorem fr_X12_readsAll (a1 : Int32) (a2 : Int32) (M : mt_M) {r : Int32} {M' : mt_M} (hf : f_X12_readsAll a1 a2 M = some (r, M')) : ∀ id k : Nat, ((id ≠ 147 ∨ k ≠ 17) ∧ id ≠ 159) → (M') id k = M id k := by
  unfold f_X12_readsAll at hf
  have hfr : ∀ id k : Nat, ((id ≠ 147 ∨ k ≠ 17) ∧ id ≠ 159) → M id k = M id k := fun _ _ _ => rfl
  by_cases c1 : a1 = (106 : Int32)
  · have hf := mt_ifT c1 hf
    obtain ⟨i1, i2⟩ := mt_so2 hf
    subst i1
    subst i2
    exact hfr
  · have hf := mt_ifF c1 hf
    by_cases c2 : a1 = (107 : Int32)
    · have hf := mt_ifT c2 hf
      refine mt_b2I hf (fun r4 M5 hg3 hf => ?_)
      have hfr : ∀ id k : Nat, ((id ≠ 147 ∨ k ≠ 17) ∧ id ≠ 159) → M5 id k = M id k := fun id k hid => (fr_X12_readsDigits a2 (1 : Int32) M hg3 id k (by omega)).trans (hfr id k hid)
      by_cases c6 : r4 = 0
      · have hf := mt_ifT c6 hf
        obtain ⟨i1, i2⟩ := mt_so2 hf
        subst i1
        subst i2
        exact hfr
      · have hf := mt_ifF c6 hf
        refine mt_b2I hf (fun r8 M9 hg7 hf => ?_)
        have hfr : ∀ id k : Nat, ((id ≠ 147 ∨ k ≠ 17) ∧ id ≠ 159) → M9 id k = M id k := fun id k hid => (fr_X12_readsDigits (a2 + (1 : Int32)) (1 : Int32) M5 hg7 id k (by omega)).trans (hfr id k hid)
        by_cases c10 : r8 = 0
        · have hf := mt_ifT c10 hf
          obtain ⟨i1, i2⟩ := mt_so2 hf
          subst i1
          subst i2
          exact hfr
        · have hf := mt_ifF c10 hf
          obtain ⟨i1, i2⟩ := mt_so2 hf
          subst i1
          subst i2
          exact hfr
    · have hf := mt_ifF c2 hf
      by_cases c11 : a1 = (108 : Int32)
      · have hf := mt_ifT c11 hf
        refine mt_b2I hf (fun r13 M14 hg12 hf => ?_)
        have hfr : ∀ id k : Nat, ((id ≠ 147 ∨ k ≠ 17) ∧ id ≠ 159) → M14 id k = M id k := fun id k hid => (fr_X12_readsDigits a2 (1 : Int32) M hg12 id k (by omega)).trans (hfr id k hid)
        refine mt_ckI hf (fun _ hf => ?_)
        obtain ⟨i1, i2⟩ := mt_so2 hf
        subst i1
        subst i2
        exact hfr
      · have hf := mt_ifF c11 hf
        by_cases c16 : a1 = (109 : Int32)
        · have hf := mt_ifT c16 hf
          refine mt_b2I hf (fun r18 M19 hg17 hf => ?_)
          have hfr : ∀ id k : Nat, ((id ≠ 147 ∨ k ≠ 17) ∧ id ≠ 159) → M19 id k = M id k := fun id k hid => (fr_X12_readsDigits a2 (1 : Int32) M hg17 id k (by omega)).trans (hfr id k hid)
          refine mt_ckI hf (fun _ hf => ?_)
          obtain ⟨i1, i2⟩ := mt_so2 hf
          subst i1
          subst i2
          exact hfr
        · have hf := mt_ifF c16 hf
          by_cases c21 : a1 = (110 : Int32)
          · have hf := mt_ifT c21 hf
            refine mt_b2I hf (fun r23 M24 hg22 hf => ?_)
            have hfr : ∀ id k : Nat, ((id ≠ 147 ∨ k ≠ 17) ∧ id ≠ 159) → M24 id k = M id k := fun id k hid => (fr_X12_readsDigits a2 (1 : Int32) M hg22 id k (by omega)).trans (hfr id k hid)
            refine mt_ckI hf (fun _ hf => ?_)
            obtain ⟨i1, i2⟩ := mt_so2 hf
            subst i1
            subst i2
            exact hfr
          · have hf := mt_ifF c21 hf
            by_cases c26 : a1 = (111 : Int32)
            · have hf := mt_ifT c26 hf
              refine mt_b2I hf (fun r28 M29 hg27 hf => ?_)
              have hfr : ∀ id k : Nat, ((id ≠ 147 ∨ k ≠ 17) ∧ id ≠ 159) → M29 id k = M id k := fun id k hid => (fr_X12_readsDigits a2 (1 : Int32) M hg27 id k (by omega)).trans (hfr id k hid)
              refine mt_ckI hf (fun _ hf => ?_)
              obtain ⟨i1, i2⟩ := mt_so2 hf
              subst i1
              subst i2
              exact hfr
            · have hf := mt_ifF c26 hf
              by_cases c31 : a1 = (112 : Int32)
              · have hf := mt_ifT c31 hf
                refine mt_b2I hf (fun r33 M34 hg32 hf => ?_)
                have hfr : ∀ id k : Nat, ((id ≠ 147 ∨ k ≠ 17) ∧ id ≠ 159) → M34 id k = M id k := fun id k hid => (fr_X12_readsDigits a2 (1 : Int32) M hg32 id k (by omega)).trans (hfr id k hid)
                refine mt_ckI hf (fun _ hf => ?_)
                obtain ⟨i1, i2⟩ := mt_so2 hf
                subst i1
                subst i2
                exact hfr
              · have hf := mt_ifF c31 hf
                by_cases c36 : a1 = (113 : Int32)
                · have hf := mt_ifT c36 hf
                  refine mt_b2I hf (fun r38 M39 hg37 hf => ?_)
                  have hfr : ∀ id k : Nat, ((id ≠ 147 ∨ k ≠ 17) ∧ id ≠ 159) → M39 id k = M id k := fun id k hid => (fr_X12_readsDigits a2 (1 : Int32) M hg37 id k (by omega)).trans (hfr id k hid)
                  refine mt_ckI hf (fun _ hf => ?_)
                  obtain ⟨i1, i2⟩ := mt_so2 hf
                  subst i1
                  subst i2
                  exact hfr
                · have hf := mt_ifF c36 hf
                  by_cases c41 : a1 = (114 : Int32)
                  · have hf := mt_ifT c41 hf
                    refine mt_b2I hf (fun r43 M44 hg42 hf => ?_)
                    have hfr : ∀ id k : Nat, ((id ≠ 147 ∨ k ≠ 17) ∧ id ≠ 159) → M44 id k = M id k := fun id k hid => (fr_X12_readsDigits a2 (1 : Int32) M hg42 id k (by omega)).trans (hfr id k hid)
                    refine mt_ckI hf (fun _ hf => ?_)
                    obtain ⟨i1, i2⟩ := mt_so2 hf
                    subst i1
                    subst i2
                    exact hfr
                  · have hf := mt_ifF c41 hf
                    by_cases c46 : a1 = (115 : Int32)
                    · have hf := mt_ifT c46 hf
                      refine mt_b2I hf (fun r48 M49 hg47 hf => ?_)
                      have hfr : ∀ id k : Nat, ((id ≠ 147 ∨ k ≠ 17) ∧ id ≠ 159) → M49 id k = M id k := fun id k hid => (fr_X12_readsDigits a2 (1 : Int32) M hg47 id k (by omega)).trans (hfr id k hid)
                      by_cases c50 : r48 = 0
                      · have hf := mt_ifT c50 hf
                        obtain ⟨i1, i2⟩ := mt_so2 hf
                        subst i1
                        subst i2
                        exact hfr
                      · have hf := mt_ifF c50 hf
                        refine mt_b2I hf (fun r52 M53 hg51 hf => ?_)
                        have hfr : ∀ id k : Nat, ((id ≠ 147 ∨ k ≠ 17) ∧ id ≠ 159) → M53 id k = M id k := fun id k hid => (fr_X12_readsDigits (a2 + (1 : Int32)) (2 : Int32) M49 hg51 id k (by omega)).trans (hfr id k hid)
                        by_cases c54 : r52 = 0
                        · have hf := mt_ifT c54 hf
                          obtain ⟨i1, i2⟩ := mt_so2 hf
                          subst i1
                          subst i2
                          exact hfr
                        · have hf := mt_ifF c54 hf
                          obtain ⟨i1, i2⟩ := mt_so2 hf
                          subst i1
                          subst i2
                          exact hfr
                    · have hf := mt_ifF c46 hf
                      by_cases c55 : a1 = (116 : Int32)
                      · have hf := mt_ifT c55 hf
                        refine mt_b2I hf (fun r57 M58 hg56 hf => ?_)
                        have hfr : ∀ id k : Nat, ((id ≠ 147 ∨ k ≠ 17) ∧ id ≠ 159) → M58 id k = M id k := fun id k hid => (fr_X12_readsDigits a2 (1 : Int32) M hg56 id k (by omega)).trans (hfr id k hid)
                        by_cases c59 : r57 = 0
                        · have hf := mt_ifT c59 hf
                          obtain ⟨i1, i2⟩ := mt_so2 hf
                          subst i1
                          subst i2
                          exact hfr
                        · have hf := mt_ifF c59 hf
                          refine mt_b2I hf (fun r61 M62 hg60 hf => ?_)
                          have hfr : ∀ id k : Nat, ((id ≠ 147 ∨ k ≠ 17) ∧ id ≠ 159) → M62 id k = M id k := fun id k hid => (fr_X12_readsDigits (a2 + (1 : Int32)) (1 : Int32) M58 hg60 id k (by omega)).trans (hfr id k hid)
                          by_cases c63 : r61 = 0
                          · have hf := mt_ifT c63 hf
                            obtain ⟨i1, i2⟩ := mt_so2 hf
                            subst i1
                            subst i2
                            exact hfr
                          · have hf := mt_ifF c63 hf
                            refine mt_b2I hf (fun r65 M66 hg64 hf => ?_)
                            have hfr : ∀ id k : Nat, ((id ≠ 147 ∨ k ≠ 17) ∧ id ≠ 159) → M66 id k = M id k := fun id k hid => (fr_X12_readsDigits (a2 + (2 : Int32)) (1 : Int32) M62 hg64 id k (by omega)).trans (hfr id k hid)
                            by_cases c67 : r65 = 0
                            · have hf := mt_ifT c67 hf
                              obtain ⟨i1, i2⟩ := mt_so2 hf
                              subst i1
                              subst i2
                              exact hfr
                            · have hf := mt_ifF c67 hf
                              obtain ⟨i1, i2⟩ := mt_so2 hf
                              subst i1
                              subst i2
                              exact hfr
                      · have hf := mt_ifF c55 hf
                        by_cases c68 : a1 = (117 : Int32)
                        · have hf := mt_ifT c68 hf
                          refine mt_b2I hf (fun r70 M71 hg69 hf => ?_)
                          have hfr : ∀ id k : Nat, ((id ≠ 147 ∨ k ≠ 17) ∧ id ≠ 159) → M71 id k = M id k := fun id k hid => (fr_X12_readsDigits a2 (1 : Int32) M hg69 id k (by omega)).trans (hfr id k hid)
                          refine mt_ckI hf (fun _ hf => ?_)
                          obtain ⟨i1, i2⟩ := mt_so2 hf
                          subst i1
                          subst i2
                          exact hfr
                        · have hf := mt_ifF c68 hf
                          by_cases c73 : a1 = (118 : Int32)
                          · have hf := mt_ifT c73 hf
                            refine mt_b2I hf (fun r75 M76 hg74 hf => ?_)
                            have hfr : ∀ id k : Nat, ((id ≠ 147 ∨ k ≠ 17) ∧ id ≠ 159) → M76 id k = M id k := fun id k hid => (fr_X12_readsDigits a2 (1 : Int32) M hg74 id k (by omega)).trans (hfr id k hid)
                            refine mt_ckI hf (fun _ hf => ?_)
                            obtain ⟨i1, i2⟩ := mt_so2 hf
                            subst i1
                            subst i2
                            exact hfr
                          · have hf := mt_ifF c73 hf
                            by_cases c78 : a1 = (119 : Int32)
                            · have hf := mt_ifT c78 hf
                              refine mt_b2I hf (fun r80 M81 hg79 hf => ?_)
                              have hfr : ∀ id k : Nat, ((id ≠ 147 ∨ k ≠ 17) ∧ id ≠ 159) → M81 id k = M id k := fun id k hid => (fr_X12_readsDigits a2 (1 : Int32) M hg79 id k (by omega)).trans (hfr id k hid)
                              by_cases c82 : r80 = 0
                              · have hf := mt_ifT c82 hf
                                obtain ⟨i1, i2⟩ := mt_so2 hf
                                subst i1
                                subst i2
                                exact hfr
                              · have hf := mt_ifF c82 hf
                                refine mt_b2I hf (fun r84 M85 hg83 hf => ?_)
                                have hfr : ∀ id k : Nat, ((id ≠ 147 ∨ k ≠ 17) ∧ id ≠ 159) → M85 id k = M id k := fun id k hid => (fr_X12_readsDigits (a2 + (1 : Int32)) (1 : Int32) M81 hg83 id k (by omega)).trans (hfr id k hid)
                                by_cases c86 : r84 = 0
                                · have hf := mt_ifT c86 hf
                                  obtain ⟨i1, i2⟩ := mt_so2 hf
                                  subst i1
                                  subst i2
                                  exact hfr
                                · have hf := mt_ifF c86 hf
                                  obtain ⟨i1, i2⟩ := mt_so2 hf
                                  subst i1
                                  subst i2
                                  exact hfr
                            · have hf := mt_ifF c78 hf
                              by_cases c87 : a1 = (120 : Int32)
                              · have hf := mt_ifT c87 hf
                                refine mt_b2I hf (fun r89 M90 hg88 hf => ?_)
                                have hfr : ∀ id k : Nat, ((id ≠ 147 ∨ k ≠ 17) ∧ id ≠ 159) → M90 id k = M id k := fun id k hid => (fr_X12_readsDigits a2 (1 : Int32) M hg88 id k (by omega)).trans (hfr id k hid)
                                by_cases c91 : r89 = 0
                                · have hf := mt_ifT c91 hf
                                  obtain ⟨i1, i2⟩ := mt_so2 hf
                                  subst i1
                                  subst i2
                                  exact hfr
                                · have hf := mt_ifF c91 hf
                                  refine mt_b2I hf (fun r93 M94 hg92 hf => ?_)
                                  have hfr : ∀ id k : Nat, ((id ≠ 147 ∨ k ≠ 17) ∧ id ≠ 159) → M94 id k = M id k := fun id k hid => (fr_X12_readsDigits (a2 + (1 : Int32)) (1 : Int32) M90 hg92 id k (by omega)).trans (hfr id k hid)
                                  by_cases c95 : r93 = 0
                                  · have hf := mt_ifT c95 hf
                                    obtain ⟨i1, i2⟩ := mt_so2 hf
                                    subst i1
                                    subst i2
                                    exact hfr
                                  · have hf := mt_ifF c95 hf
                                    obtain ⟨i1, i2⟩ := mt_so2 hf
                                    subst i1
                                    subst i2
                                    exact hfr
                              · have hf := mt_ifF c87 hf
                                refine mt_b2I hf (fun r97 M98 hg96 hf => ?_)
                                have hfr : ∀ id k : Nat, ((id ≠ 147 ∨ k ≠ 17) ∧ id ≠ 159) → M98 id k = M id k := fun id k hid => (fr_X12_readsDigits a2 (1 : Int32) M hg96 id k (by omega)).trans (hfr id k hid)
                                refine mt_ckI hf (fun _ hf => ?_)
                                obtain ⟨i1, i2⟩ := mt_so2 hf
                                subst i1
                                subst i2
                                exact hfr
set_option maxHeartbeats 4000000 in
set_option maxRecDepth 100000 in
theorem fr_X12_statement (M : mt_M) {r : Int32} {M' : mt_M} (hf : f_X12_statement M = some (r, M')) : ∀ id k : Nat, ((id ≠ 147 ∨ k ≠ 17) ∧ id ≠ 157 ∧ id ≠ 158 ∧ id ≠ 159) → (M') id k = M id k := by
  unfold f_X12_statement at hf
  have hfr : ∀ id k : Nat, ((id ≠ 147 ∨ k ≠ 17) ∧ id ≠ 157 ∧ id ≠ 158 ∧ id ≠ 159) → M id k = M id k := fun _ _ _ => rfl
  refine mt_b1I hf (fun r2 hg1 hf => ?_)
  refine mt_b1I hf (fun r4 hg3 hf => ?_)
  by_cases c5 : r4 = 0
  · have hf := mt_ifT c5 hf
    obtain ⟨i1, i2⟩ := mt_so2 hf
    subst i1
    subst i2
    exact hfr
  · have hf := mt_ifF c5 hf
    refine mt_ciI hf (fun _ hf => ?_)
    refine mt_ltI hf (fun M6 eM6 hf => ?_)
    have hfr : ∀ id k : Nat, ((id ≠ 147 ∨ k ≠ 17) ∧ id ≠ 157 ∧ id ≠ 158 ∧ id ≠ 159) → M6 id k = M id k := fun id k hid => (by rw [eM6]; exact mt_wr_ne2 (by omega) : M6 id k = M id k).trans (hfr id k hid)
    refine mt_ciI hf (fun _ hf => ?_)
    refine mt_ltI hf (fun M8 eM8 hf => ?_)
    have hfr : ∀ id k : Nat, ((id ≠ 147 ∨ k ≠ 17) ∧ id ≠ 157 ∧ id ≠ 158 ∧ id ≠ 159) → M8 id k = M id k := fun id k hid => (by rw [eM8]; exact mt_wr_ne2 (by omega) : M8 id k = M6 id k).trans (hfr id k hid)
    refine mt_ltI hf (fun M10 eM10 hf => ?_)
    have hfr : ∀ id k : Nat, ((id ≠ 147 ∨ k ≠ 17) ∧ id ≠ 157 ∧ id ≠ 158 ∧ id ≠ 159) → M10 id k = M id k := fun id k hid => (by rw [eM10]; exact mt_wr_ne2 (by omega) : M10 id k = M8 id k).trans (hfr id k hid)
    refine mt_b2I hf (fun r12 M13 hg11 hf => ?_)
    have hfr : ∀ id k : Nat, ((id ≠ 147 ∨ k ≠ 17) ∧ id ≠ 157 ∧ id ≠ 158 ∧ id ≠ 159) → M13 id k = M id k := fun id k hid => (fr_X12_readsAll r2 ((3 : Int32) * (M10 147 18)) M10 hg11 id k (by omega)).trans (hfr id k hid)
    by_cases c14 : r12 = 0
    · have hf := mt_ifT c14 hf
      obtain ⟨i1, i2⟩ := mt_so2 hf
      subst i1
      subst i2
      exact hfr
    · have hf := mt_ifF c14 hf
      refine mt_b1I hf (fun r16 hg15 hf => ?_)
      by_cases c17 : r16 = (59 : Int32)
      · have hf := mt_ifT c17 hf
        refine mt_ltI hf (fun M18 eM18 hf => ?_)
        have hfr : ∀ id k : Nat, ((id ≠ 147 ∨ k ≠ 17) ∧ id ≠ 157 ∧ id ≠ 158 ∧ id ≠ 159) → M18 id k = M id k := fun id k hid => (by rw [eM18]; exact mt_wr_ne2 (by omega) : M18 id k = M13 id k).trans (hfr id k hid)
        obtain ⟨i1, i2⟩ := mt_so2 hf
        subst i1
        subst i2
        exact hfr
      · have hf := mt_ifF c17 hf
        obtain ⟨i1, i2⟩ := mt_so2 hf
        subst i1
        subst i2
        exact hfr
set_option maxHeartbeats 4000000 in
set_option maxRecDepth 100000 in
theorem fr_X12_marks (a1 : Int32) (a2 : Int32) (a3 : Int32) (M : mt_M) {M' : mt_M} (hf : f_X12_marks a1 a2 a3 M = some (M')) : ∀ id k : Nat, ((id ≠ 147 ∨ k ≠ 9) ∧ id ≠ 153 ∧ id ≠ 154) → (M') id k = M id k := by
  unfold f_X12_marks at hf
  have hfr : ∀ id k : Nat, ((id ≠ 147 ∨ k ≠ 9) ∧ id ≠ 153 ∧ id ≠ 154) → M id k = M id k := fun _ _ _ => rfl
  refine mt_ltI hf (fun M1 eM1 hf => ?_)
  have hfr : ∀ id k : Nat, ((id ≠ 147 ∨ k ≠ 9) ∧ id ≠ 153 ∧ id ≠ 154) → M1 id k = M id k := fun id k hid => (by rw [eM1]; exact mt_wr_ne2 (by omega) : M1 id k = M id k).trans (hfr id k hid)
  refine mt_ciI hf (fun _ hf => ?_)
  refine mt_ltI hf (fun M2 eM2 hf => ?_)
  have hfr : ∀ id k : Nat, ((id ≠ 147 ∨ k ≠ 9) ∧ id ≠ 153 ∧ id ≠ 154) → M2 id k = M id k := fun id k hid => (by rw [eM2]; exact mt_wr_ne2 (by omega) : M2 id k = M1 id k).trans (hfr id k hid)
  refine mt_ciI hf (fun _ hf => ?_)
  refine mt_ltI hf (fun M4 eM4 hf => ?_)
  have hfr : ∀ id k : Nat, ((id ≠ 147 ∨ k ≠ 9) ∧ id ≠ 153 ∧ id ≠ 154) → M4 id k = M id k := fun id k hid => (by rw [eM4]; exact mt_wr_ne2 (by omega) : M4 id k = M2 id k).trans (hfr id k hid)
  have i1 := mt_so1 hf
  subst i1
  exact hfr
set_option maxHeartbeats 4000000 in
set_option maxRecDepth 100000 in
theorem fr_X12_gets (a1 : Int32) (M : mt_M) {M' : mt_M} (hf : f_X12_gets a1 M = some (M')) : ∀ id k : Nat, (id ≠ 152 ∧ id ≠ 155) → (M') id k = M id k := by
  unfold f_X12_gets at hf
  have hfr : ∀ id k : Nat, (id ≠ 152 ∧ id ≠ 155) → M id k = M id k := fun _ _ _ => rfl
  refine mt_ciI hf (fun _ hf => ?_)
  refine mt_b1I hf (fun r3 hg2 hf => ?_)
  refine mt_ltI hf (fun x4 _ hf => ?_)
  refine mt_jn1 hf (fun (v5 : Int32) => (∀ id k : Nat, (id ≠ 152 ∧ id ≠ 155) → M id k = M id k) → ∀ id k : Nat, (id ≠ 152 ∧ id ≠ 155) → (M') id k = M id k) ?_ ?_
  · intro v5 hf hfr
    refine mt_ciI hf (fun _ hf => ?_)
    refine mt_ltI hf (fun M8 eM8 hf => ?_)
    have hfr : ∀ id k : Nat, (id ≠ 152 ∧ id ≠ 155) → M8 id k = M id k := fun id k hid => (by rw [eM8]; exact mt_wr_ne2 (by omega) : M8 id k = M id k).trans (hfr id k hid)
    refine mt_b1I hf (fun r11 hg10 hf => ?_)
    refine mt_ltI hf (fun M12 eM12 hf => ?_)
    have hfr : ∀ id k : Nat, (id ≠ 152 ∧ id ≠ 155) → M12 id k = M id k := fun id k hid => (by rw [eM12]; exact mt_wr_ne2 (by omega) : M12 id k = M8 id k).trans (hfr id k hid)
    have i1 := mt_so1 hf
    subst i1
    exact hfr
  · intro j6 hj7 hf
    by_cases c13 : x4 ≤ (99 : Int32)
    · have hf := mt_ifT c13 hf
      exact hj7 x4 hf hfr
    · have hf := mt_ifF c13 hf
      exact hj7 (99 : Int32) hf hfr
set_option maxHeartbeats 4000000 in
set_option maxRecDepth 100000 in
theorem fr_X12_buys (a1 : Int32) (a2 : Int32) (M : mt_M) {M' : mt_M} (hf : f_X12_buys a1 a2 M = some (M')) : ∀ id k : Nat, ((id ≠ 147 ∨ k ≠ 9) ∧ id ≠ 152 ∧ id ≠ 153 ∧ id ≠ 154 ∧ id ≠ 155) → (M') id k = M id k := by
  unfold f_X12_buys at hf
  have hfr : ∀ id k : Nat, ((id ≠ 147 ∨ k ≠ 9) ∧ id ≠ 152 ∧ id ≠ 153 ∧ id ≠ 154 ∧ id ≠ 155) → M id k = M id k := fun _ _ _ => rfl
  refine mt_b1I hf (fun M2 hg1 hf => ?_)
  have hfr : ∀ id k : Nat, ((id ≠ 147 ∨ k ≠ 9) ∧ id ≠ 152 ∧ id ≠ 153 ∧ id ≠ 154 ∧ id ≠ 155) → M2 id k = M id k := fun id k hid => (fr_X12_marks a1 a2 (0 : Int32) M hg1 id k (by omega)).trans (hfr id k hid)
  refine mt_b1I hf (fun M4 hg3 hf => ?_)
  have hfr : ∀ id k : Nat, ((id ≠ 147 ∨ k ≠ 9) ∧ id ≠ 152 ∧ id ≠ 153 ∧ id ≠ 154 ∧ id ≠ 155) → M4 id k = M id k := fun id k hid => (fr_X12_gets a2 M2 hg3 id k (by omega)).trans (hfr id k hid)
  have i1 := mt_so1 hf
  subst i1
  exact hfr
set_option maxHeartbeats 4000000 in
set_option maxRecDepth 100000 in
theorem fr_X12_comesLine (a1 : Int32) (a2 : Int32) (a3 : Int32) (M : mt_M) {r : Int32} {M' : mt_M} (hf : f_X12_comesLine a1 a2 a3 M = some (r, M')) : ∀ id k : Nat, ((id ≠ 147 ∨ k ≠ 9) ∧ id ≠ 152 ∧ id ≠ 153 ∧ id ≠ 154 ∧ id ≠ 155) → (M') id k = M id k := by
  unfold f_X12_comesLine at hf
  have hfr : ∀ id k : Nat, ((id ≠ 147 ∨ k ≠ 9) ∧ id ≠ 152 ∧ id ≠ 153 ∧ id ≠ 154 ∧ id ≠ 155) → M id k = M id k := fun _ _ _ => rfl
  refine mt_b1I hf (fun r2 hg1 hf => ?_)
  by_cases c3 : r2 = 0
  · have hf := mt_ifT c3 hf
    obtain ⟨i1, i2⟩ := mt_so2 hf
    subst i1
    subst i2
    exact hfr
  · have hf := mt_ifF c3 hf
    by_cases c4 : (M 147 9) = (999 : Int32)
    · have hf := mt_ifT c4 hf
      obtain ⟨i1, i2⟩ := mt_so2 hf
      subst i1
      subst i2
      exact hfr
    · have hf := mt_ifF c4 hf
      refine mt_jn1 hf (fun (M5 : mt_M) => (∀ id k : Nat, ((id ≠ 147 ∨ k ≠ 9) ∧ id ≠ 152 ∧ id ≠ 153 ∧ id ≠ 154 ∧ id ≠ 155) → M5 id k = M id k) → ∀ id k : Nat, ((id ≠ 147 ∨ k ≠ 9) ∧ id ≠ 152 ∧ id ≠ 153 ∧ id ≠ 154 ∧ id ≠ 155) → (M') id k = M id k) ?_ ?_
      · intro M5 hf hfr
        refine mt_jn1 hf (fun (M8 : mt_M) => (∀ id k : Nat, ((id ≠ 147 ∨ k ≠ 9) ∧ id ≠ 152 ∧ id ≠ 153 ∧ id ≠ 154 ∧ id ≠ 155) → M8 id k = M id k) → ∀ id k : Nat, ((id ≠ 147 ∨ k ≠ 9) ∧ id ≠ 152 ∧ id ≠ 153 ∧ id ≠ 154 ∧ id ≠ 155) → (M') id k = M id k) ?_ ?_
        · intro M8 hf hfr
          by_cases c11 : a1 = (120 : Int32)
          · have hf := mt_ifT c11 hf
            refine mt_b1I hf (fun M13 hg12 hf => ?_)
            have hfr : ∀ id k : Nat, ((id ≠ 147 ∨ k ≠ 9) ∧ id ≠ 152 ∧ id ≠ 153 ∧ id ≠ 154 ∧ id ≠ 155) → M13 id k = M id k := fun id k hid => (fr_X12_marks a2 a3 (0 : Int32) M8 hg12 id k (by omega)).trans (hfr id k hid)
            obtain ⟨i1, i2⟩ := mt_so2 hf
            subst i1
            subst i2
            exact hfr
          · have hf := mt_ifF c11 hf
            obtain ⟨i1, i2⟩ := mt_so2 hf
            subst i1
            subst i2
            exact hfr
        · intro j9 hj10 hf
          by_cases c14 : a1 = (107 : Int32)
          · have hf := mt_ifT c14 hf
            refine mt_b1I hf (fun M16 hg15 hf => ?_)
            have hfr : ∀ id k : Nat, ((id ≠ 147 ∨ k ≠ 9) ∧ id ≠ 152 ∧ id ≠ 153 ∧ id ≠ 154 ∧ id ≠ 155) → M16 id k = M id k := fun id k hid => (fr_X12_buys a2 a3 M5 hg15 id k (by omega)).trans (hfr id k hid)
            exact hj10 M16 hf hfr
          · have hf := mt_ifF c14 hf
            exact hj10 M5 hf hfr
      · intro j6 hj7 hf
        by_cases c17 : a1 = (119 : Int32)
        · have hf := mt_ifT c17 hf
          refine mt_b1I hf (fun M19 hg18 hf => ?_)
          have hfr : ∀ id k : Nat, ((id ≠ 147 ∨ k ≠ 9) ∧ id ≠ 152 ∧ id ≠ 153 ∧ id ≠ 154 ∧ id ≠ 155) → M19 id k = M id k := fun id k hid => (fr_X12_marks a2 a3 (1 : Int32) M hg18 id k (by omega)).trans (hfr id k hid)
          exact hj7 M19 hf hfr
        · have hf := mt_ifF c17 hf
          exact hj7 M hf hfr
set_option maxHeartbeats 4000000 in
set_option maxRecDepth 100000 in
theorem fr_X12_usesOf (a1 : Int32) (M : mt_M) {r : Int32} {M' : mt_M} (hf : f_X12_usesOf a1 M = some (r, M')) : ∀ id k : Nat, (id ≠ 152 ∧ id ≠ 155) → (M') id k = M id k := by
  unfold f_X12_usesOf at hf
  have hfr : ∀ id k : Nat, (id ≠ 152 ∧ id ≠ 155) → M id k = M id k := fun _ _ _ => rfl
  refine mt_ciI hf (fun _ hf => ?_)
  refine mt_ciI hf (fun _ hf => ?_)
  refine mt_jn1 hf (fun (v3 : Int32) => (∀ id k : Nat, (id ≠ 152 ∧ id ≠ 155) → M id k = M id k) → ∀ id k : Nat, (id ≠ 152 ∧ id ≠ 155) → (M') id k = M id k) ?_ ?_
  · intro v3 hf hfr
    refine mt_ciI hf (fun _ hf => ?_)
    refine mt_ciI hf (fun _ hf => ?_)
    refine mt_ciI hf (fun _ hf => ?_)
    refine mt_ltI hf (fun M8 eM8 hf => ?_)
    have hfr : ∀ id k : Nat, (id ≠ 152 ∧ id ≠ 155) → M8 id k = M id k := fun id k hid => (by rw [eM8]; exact mt_wr_ne2 (by omega) : M8 id k = M id k).trans (hfr id k hid)
    refine mt_ltI hf (fun M10 eM10 hf => ?_)
    have hfr : ∀ id k : Nat, (id ≠ 152 ∧ id ≠ 155) → M10 id k = M id k := fun id k hid => (by rw [eM10]; exact mt_wr_ne2 (by omega) : M10 id k = M8 id k).trans (hfr id k hid)
    refine mt_b1I hf (fun r12 hg11 hf => ?_)
    refine mt_ltI hf (fun M13 eM13 hf => ?_)
    have hfr : ∀ id k : Nat, (id ≠ 152 ∧ id ≠ 155) → M13 id k = M id k := fun id k hid => (by rw [eM13]; exact mt_wr_ne2 (by omega) : M13 id k = M10 id k).trans (hfr id k hid)
    refine mt_ciI hf (fun _ hf => ?_)
    refine mt_ciI hf (fun _ hf => ?_)
    refine mt_ltI hf (fun M15 eM15 hf => ?_)
    have hfr : ∀ id k : Nat, (id ≠ 152 ∧ id ≠ 155) → M15 id k = M id k := fun id k hid => (by rw [eM15]; exact mt_wr_ne2 (by omega) : M15 id k = M13 id k).trans (hfr id k hid)
    obtain ⟨i1, i2⟩ := mt_so2 hf
    subst i1
    subst i2
    exact hfr
  · intro j4 hj5 hf
    by_cases c17 : (M 151 a1.toNatClampNeg) ≤ (M 152 a1.toNatClampNeg)
    · have hf := mt_ifT c17 hf
      exact hj5 (0 : Int32) hf hfr
    · have hf := mt_ifF c17 hf
      refine mt_ciI hf (fun _ hf => ?_)
      refine mt_ciI hf (fun _ hf => ?_)
      exact hj5 ((M 151 a1.toNatClampNeg) - (M 152 a1.toNatClampNeg)) hf hfr
set_option maxHeartbeats 4000000 in
set_option maxRecDepth 100000 in
theorem fr_X12_goesDay (M : mt_M) {r : Int32} {M' : mt_M} (hf : f_X12_goesDay M = some (r, M')) : ∀ id k : Nat, ((id ≠ 147 ∨ k ≠ 10) ∧ id ≠ 152 ∧ id ≠ 155) → (M') id k = M id k := by
  unfold f_X12_goesDay at hf
  have hfr : ∀ id k : Nat, ((id ≠ 147 ∨ k ≠ 10) ∧ id ≠ 152 ∧ id ≠ 155) → M id k = M id k := fun _ _ _ => rfl
  refine mt_lpI3 hf (fun (x1 : Int32) (x2 : Int32) (M3 : mt_M) => (∀ id k : Nat, ((id ≠ 147 ∨ k ≠ 10) ∧ id ≠ 152 ∧ id ≠ 155) → M3 id k = M id k) → ∀ id k : Nat, ((id ≠ 147 ∨ k ≠ 10) ∧ id ≠ 152 ∧ id ≠ 155) → (M') id k = M id k) ?_ hfr
  intro k4 ih5 x1 x2 M3 hf hfr
  by_cases c6 : (M3 147 8) ≤ x2
  · have hf := mt_ifT c6 hf
    refine mt_ltI hf (fun M7 eM7 hf => ?_)
    have hfr : ∀ id k : Nat, ((id ≠ 147 ∨ k ≠ 10) ∧ id ≠ 152 ∧ id ≠ 155) → M7 id k = M id k := fun id k hid => (by rw [eM7]; exact mt_wr_ne2 (by omega) : M7 id k = M3 id k).trans (hfr id k hid)
    obtain ⟨i1, i2⟩ := mt_so2 hf
    subst i1
    subst i2
    exact hfr
  · have hf := mt_ifF c6 hf
    refine mt_b2I hf (fun r9 M10 hg8 hf => ?_)
    have hfr : ∀ id k : Nat, ((id ≠ 147 ∨ k ≠ 10) ∧ id ≠ 152 ∧ id ≠ 155) → M10 id k = M id k := fun id k hid => (fr_X12_usesOf x2 M3 hg8 id k (by omega)).trans (hfr id k hid)
    refine mt_ltI hf (fun x11 _ hf => ?_)
    refine mt_ltI hf (fun x12 _ hf => ?_)
    exact ih5 x11 x12 M10 hf hfr
set_option maxHeartbeats 4000000 in
set_option maxRecDepth 100000 in
theorem fr_X12_comesDays (a1 : Int32) (M : mt_M) {r : Int32} {M' : mt_M} (hf : f_X12_comesDays a1 M = some (r, M')) : ∀ id k : Nat, ((id ≠ 147 ∨ k ≠ 10) ∧ id ≠ 152 ∧ id ≠ 155) → (M') id k = M id k := by
  unfold f_X12_comesDays at hf
  have hfr : ∀ id k : Nat, ((id ≠ 147 ∨ k ≠ 10) ∧ id ≠ 152 ∧ id ≠ 155) → M id k = M id k := fun _ _ _ => rfl
  by_cases c1 : ((M 147 10) + a1) ≤ (999 : Int32)
  · have hf := mt_ifT c1 hf
    refine mt_lpI2 hf (fun (x2 : Int32) (M3 : mt_M) => (∀ id k : Nat, ((id ≠ 147 ∨ k ≠ 10) ∧ id ≠ 152 ∧ id ≠ 155) → M3 id k = M id k) → ∀ id k : Nat, ((id ≠ 147 ∨ k ≠ 10) ∧ id ≠ 152 ∧ id ≠ 155) → (M') id k = M id k) ?_ hfr
    intro k4 ih5 x2 M3 hf hfr
    by_cases c6 : a1 ≤ x2
    · have hf := mt_ifT c6 hf
      obtain ⟨i1, i2⟩ := mt_so2 hf
      subst i1
      subst i2
      exact hfr
    · have hf := mt_ifF c6 hf
      refine mt_b2I hf (fun r8 M9 hg7 hf => ?_)
      have hfr : ∀ id k : Nat, ((id ≠ 147 ∨ k ≠ 10) ∧ id ≠ 152 ∧ id ≠ 155) → M9 id k = M id k := fun id k hid => (fr_X12_goesDay M3 hg7 id k (by omega)).trans (hfr id k hid)
      refine mt_ltI hf (fun x10 _ hf => ?_)
      exact ih5 x10 M9 hf hfr
  · have hf := mt_ifF c1 hf
    obtain ⟨i1, i2⟩ := mt_so2 hf
    subst i1
    subst i2
    exact hfr
set_option maxHeartbeats 4000000 in
set_option maxRecDepth 100000 in
theorem fr_X12_adds (a1 : Int32) (a2 : Int32) (a3 : Int32) (M : mt_M) {M' : mt_M} (hf : f_X12_adds a1 a2 a3 M = some (M')) : ∀ id k : Nat, ((id ≠ 147 ∨ k ≠ 8) ∧ id ≠ 149 ∧ id ≠ 150 ∧ id ≠ 151 ∧ id ≠ 152 ∧ id ≠ 153 ∧ id ≠ 154) → (M') id k = M id k := by
  unfold f_X12_adds at hf
  have hfr : ∀ id k : Nat, ((id ≠ 147 ∨ k ≠ 8) ∧ id ≠ 149 ∧ id ≠ 150 ∧ id ≠ 151 ∧ id ≠ 152 ∧ id ≠ 153 ∧ id ≠ 154) → M id k = M id k := fun _ _ _ => rfl
  refine mt_ciI hf (fun _ hf => ?_)
  refine mt_ltI hf (fun M1 eM1 hf => ?_)
  have hfr : ∀ id k : Nat, ((id ≠ 147 ∨ k ≠ 8) ∧ id ≠ 149 ∧ id ≠ 150 ∧ id ≠ 151 ∧ id ≠ 152 ∧ id ≠ 153 ∧ id ≠ 154) → M1 id k = M id k := fun id k hid => (by rw [eM1]; exact mt_wr_ne2 (by omega) : M1 id k = M id k).trans (hfr id k hid)
  refine mt_ciI hf (fun _ hf => ?_)
  refine mt_ltI hf (fun M3 eM3 hf => ?_)
  have hfr : ∀ id k : Nat, ((id ≠ 147 ∨ k ≠ 8) ∧ id ≠ 149 ∧ id ≠ 150 ∧ id ≠ 151 ∧ id ≠ 152 ∧ id ≠ 153 ∧ id ≠ 154) → M3 id k = M id k := fun id k hid => (by rw [eM3]; exact mt_wr_ne2 (by omega) : M3 id k = M1 id k).trans (hfr id k hid)
  refine mt_ciI hf (fun _ hf => ?_)
  refine mt_ltI hf (fun M5 eM5 hf => ?_)
  have hfr : ∀ id k : Nat, ((id ≠ 147 ∨ k ≠ 8) ∧ id ≠ 149 ∧ id ≠ 150 ∧ id ≠ 151 ∧ id ≠ 152 ∧ id ≠ 153 ∧ id ≠ 154) → M5 id k = M id k := fun id k hid => (by rw [eM5]; exact mt_wr_ne2 (by omega) : M5 id k = M3 id k).trans (hfr id k hid)
  refine mt_ciI hf (fun _ hf => ?_)
  refine mt_ltI hf (fun M7 eM7 hf => ?_)
  have hfr : ∀ id k : Nat, ((id ≠ 147 ∨ k ≠ 8) ∧ id ≠ 149 ∧ id ≠ 150 ∧ id ≠ 151 ∧ id ≠ 152 ∧ id ≠ 153 ∧ id ≠ 154) → M7 id k = M id k := fun id k hid => (by rw [eM7]; exact mt_wr_ne2 (by omega) : M7 id k = M5 id k).trans (hfr id k hid)
  refine mt_lpI2 hf (fun (x9 : Int32) (M10 : mt_M) => (∀ id k : Nat, ((id ≠ 147 ∨ k ≠ 8) ∧ id ≠ 149 ∧ id ≠ 150 ∧ id ≠ 151 ∧ id ≠ 152 ∧ id ≠ 153 ∧ id ≠ 154) → M10 id k = M id k) → ∀ id k : Nat, ((id ≠ 147 ∨ k ≠ 8) ∧ id ≠ 149 ∧ id ≠ 150 ∧ id ≠ 151 ∧ id ≠ 152 ∧ id ≠ 153 ∧ id ≠ 154) → (M') id k = M id k) ?_ hfr
  intro k11 ih12 x9 M10 hf hfr
  by_cases c13 : (2 : Int32) ≤ x9
  · have hf := mt_ifT c13 hf
    refine mt_ltI hf (fun M14 eM14 hf => ?_)
    have hfr : ∀ id k : Nat, ((id ≠ 147 ∨ k ≠ 8) ∧ id ≠ 149 ∧ id ≠ 150 ∧ id ≠ 151 ∧ id ≠ 152 ∧ id ≠ 153 ∧ id ≠ 154) → M14 id k = M id k := fun id k hid => (by rw [eM14]; exact mt_wr_ne2 (by omega) : M14 id k = M10 id k).trans (hfr id k hid)
    have i1 := mt_so1 hf
    subst i1
    exact hfr
  · have hf := mt_ifF c13 hf
    refine mt_ciI hf (fun _ hf => ?_)
    refine mt_ltI hf (fun M15 eM15 hf => ?_)
    have hfr : ∀ id k : Nat, ((id ≠ 147 ∨ k ≠ 8) ∧ id ≠ 149 ∧ id ≠ 150 ∧ id ≠ 151 ∧ id ≠ 152 ∧ id ≠ 153 ∧ id ≠ 154) → M15 id k = M id k := fun id k hid => (by rw [eM15]; exact mt_wr_ne2 (by omega) : M15 id k = M10 id k).trans (hfr id k hid)
    refine mt_ciI hf (fun _ hf => ?_)
    refine mt_ltI hf (fun M17 eM17 hf => ?_)
    have hfr : ∀ id k : Nat, ((id ≠ 147 ∨ k ≠ 8) ∧ id ≠ 149 ∧ id ≠ 150 ∧ id ≠ 151 ∧ id ≠ 152 ∧ id ≠ 153 ∧ id ≠ 154) → M17 id k = M id k := fun id k hid => (by rw [eM17]; exact mt_wr_ne2 (by omega) : M17 id k = M15 id k).trans (hfr id k hid)
    refine mt_ltI hf (fun x19 _ hf => ?_)
    exact ih12 x19 M17 hf hfr
set_option maxHeartbeats 4000000 in
set_option maxRecDepth 100000 in
theorem fr_X12_joins (M : mt_M) {r : Int32} {M' : mt_M} (hf : f_X12_joins M = some (r, M')) : ∀ id k : Nat, (id ≠ 153 ∧ id ≠ 154) → (M') id k = M id k := by
  unfold f_X12_joins at hf
  have hfr : ∀ id k : Nat, (id ≠ 153 ∧ id ≠ 154) → M id k = M id k := fun _ _ _ => rfl
  refine mt_lpI3 hf (fun (x1 : Int32) (x2 : Int32) (M3 : mt_M) => (∀ id k : Nat, (id ≠ 153 ∧ id ≠ 154) → M3 id k = M id k) → ∀ id k : Nat, (id ≠ 153 ∧ id ≠ 154) → (M') id k = M id k) ?_ hfr
  intro k4 ih5 x1 x2 M3 hf hfr
  by_cases c6 : (M3 147 8) ≤ x2
  · have hf := mt_ifT c6 hf
    obtain ⟨i1, i2⟩ := mt_so2 hf
    subst i1
    subst i2
    exact hfr
  · have hf := mt_ifF c6 hf
    refine mt_b1I hf (fun r8 hg7 hf => ?_)
    refine mt_b1I hf (fun r10 hg9 hf => ?_)
    refine mt_jn1 hf (fun (v11 : Int32) => (∀ id k : Nat, (id ≠ 153 ∧ id ≠ 154) → M3 id k = M id k) → ∀ id k : Nat, (id ≠ 153 ∧ id ≠ 154) → (M') id k = M id k) ?_ ?_
    · intro v11 hf hfr
      refine mt_lpI3 hf (fun (x14 : Int32) (x15 : Int32) (M16 : mt_M) => (∀ id k : Nat, (id ≠ 153 ∧ id ≠ 154) → M16 id k = M id k) → ∀ id k : Nat, (id ≠ 153 ∧ id ≠ 154) → (M') id k = M id k) ?_ hfr
      intro k17 ih18 x14 x15 M16 hf hfr
      by_cases c19 : (2 : Int32) ≤ x15
      · have hf := mt_ifT c19 hf
        refine mt_ltI hf (fun x20 _ hf => ?_)
        exact ih5 x14 x20 M16 hf hfr
      · have hf := mt_ifF c19 hf
        refine mt_ciI hf (fun _ hf => ?_)
        refine mt_jn1 hf (fun (v22 : Int32) => (∀ id k : Nat, (id ≠ 153 ∧ id ≠ 154) → M16 id k = M id k) → ∀ id k : Nat, (id ≠ 153 ∧ id ≠ 154) → (M') id k = M id k) ?_ ?_
        · intro v22 hf hfr
          refine mt_ltI hf (fun x25 _ hf => ?_)
          refine mt_ciI hf (fun _ hf => ?_)
          refine mt_ltI hf (fun M26 eM26 hf => ?_)
          have hfr : ∀ id k : Nat, (id ≠ 153 ∧ id ≠ 154) → M26 id k = M id k := fun id k hid => (by rw [eM26]; exact mt_wr_ne2 (by omega) : M26 id k = M16 id k).trans (hfr id k hid)
          refine mt_ciI hf (fun _ hf => ?_)
          refine mt_ltI hf (fun M28 eM28 hf => ?_)
          have hfr : ∀ id k : Nat, (id ≠ 153 ∧ id ≠ 154) → M28 id k = M id k := fun id k hid => (by rw [eM28]; exact mt_wr_ne2 (by omega) : M28 id k = M26 id k).trans (hfr id k hid)
          refine mt_ltI hf (fun x30 _ hf => ?_)
          exact ih18 x25 x30 M28 hf hfr
        · intro j23 hj24 hf
          by_cases c31 : (M16 153 (((7 : Int32) * x15) + x2).toNatClampNeg) = r8
          · have hf := mt_ifT c31 hf
            exact hj24 (0 : Int32) hf hfr
          · have hf := mt_ifF c31 hf
            exact hj24 (1 : Int32) hf hfr
    · intro j12 hj13 hf
      by_cases c32 : r10 = (1 : Int32)
      · have hf := mt_ifT c32 hf
        refine mt_ciI hf (fun _ hf => ?_)
        exact hj13 (M3 154 ((7 : Int32) + x2).toNatClampNeg) hf hfr
      · have hf := mt_ifF c32 hf
        refine mt_ciI hf (fun _ hf => ?_)
        exact hj13 (M3 154 x2.toNatClampNeg) hf hfr
set_option maxHeartbeats 4000000 in
set_option maxRecDepth 100000 in
theorem fr_X12_comes (a1 : Int32) (M : mt_M) {r : Int32} {M' : mt_M} (hf : f_X12_comes a1 M = some (r, M')) : ∀ id k : Nat, ((id ≠ 147 ∨ k ≠ 10) ∧ (id ≠ 147 ∨ k ≠ 11) ∧ (id ≠ 147 ∨ k ≠ 8) ∧ (id ≠ 147 ∨ k ≠ 9) ∧ id ≠ 149 ∧ id ≠ 150 ∧ id ≠ 151 ∧ id ≠ 152 ∧ id ≠ 153 ∧ id ≠ 154 ∧ id ≠ 155) → (M') id k = M id k := by
  unfold f_X12_comes at hf
  have hfr : ∀ id k : Nat, ((id ≠ 147 ∨ k ≠ 10) ∧ (id ≠ 147 ∨ k ≠ 11) ∧ (id ≠ 147 ∨ k ≠ 8) ∧ (id ≠ 147 ∨ k ≠ 9) ∧ id ≠ 149 ∧ id ≠ 150 ∧ id ≠ 151 ∧ id ≠ 152 ∧ id ≠ 153 ∧ id ≠ 154 ∧ id ≠ 155) → M id k = M id k := fun _ _ _ => rfl
  refine mt_ciI hf (fun _ hf => ?_)
  refine mt_ltI hf (fun x2 _ hf => ?_)
  refine mt_ciI hf (fun _ hf => ?_)
  refine mt_ltI hf (fun x4 _ hf => ?_)
  refine mt_ciI hf (fun _ hf => ?_)
  refine mt_ltI hf (fun x6 _ hf => ?_)
  by_cases c7 : x6 = (100 : Int32)
  · have hf := mt_ifT c7 hf
    refine mt_b2I hf (fun r9 M10 hg8 hf => ?_)
    have hfr : ∀ id k : Nat, ((id ≠ 147 ∨ k ≠ 10) ∧ (id ≠ 147 ∨ k ≠ 11) ∧ (id ≠ 147 ∨ k ≠ 8) ∧ (id ≠ 147 ∨ k ≠ 9) ∧ id ≠ 149 ∧ id ≠ 150 ∧ id ≠ 151 ∧ id ≠ 152 ∧ id ≠ 153 ∧ id ≠ 154 ∧ id ≠ 155) → M10 id k = M id k := fun id k hid => (fr_X12_comesDays x2 M hg8 id k (by omega)).trans (hfr id k hid)
    refine mt_ckI hf (fun _ hf => ?_)
    obtain ⟨i1, i2⟩ := mt_so2 hf
    subst i1
    subst i2
    exact hfr
  · have hf := mt_ifF c7 hf
    by_cases c12 : x6 = (106 : Int32)
    · have hf := mt_ifT c12 hf
      refine mt_b2I hf (fun r14 M15 hg13 hf => ?_)
      have hfr : ∀ id k : Nat, ((id ≠ 147 ∨ k ≠ 10) ∧ (id ≠ 147 ∨ k ≠ 11) ∧ (id ≠ 147 ∨ k ≠ 8) ∧ (id ≠ 147 ∨ k ≠ 9) ∧ id ≠ 149 ∧ id ≠ 150 ∧ id ≠ 151 ∧ id ≠ 152 ∧ id ≠ 153 ∧ id ≠ 154 ∧ id ≠ 155) → M15 id k = M id k := fun id k hid => (fr_X12_joins M hg13 id k (by omega)).trans (hfr id k hid)
      obtain ⟨i1, i2⟩ := mt_so2 hf
      subst i1
      subst i2
      exact hfr
    · have hf := mt_ifF c12 hf
      by_cases c16 : x6 = (114 : Int32)
      · have hf := mt_ifT c16 hf
        refine mt_ltI hf (fun M17 eM17 hf => ?_)
        have hfr : ∀ id k : Nat, ((id ≠ 147 ∨ k ≠ 10) ∧ (id ≠ 147 ∨ k ≠ 11) ∧ (id ≠ 147 ∨ k ≠ 8) ∧ (id ≠ 147 ∨ k ≠ 9) ∧ id ≠ 149 ∧ id ≠ 150 ∧ id ≠ 151 ∧ id ≠ 152 ∧ id ≠ 153 ∧ id ≠ 154 ∧ id ≠ 155) → M17 id k = M id k := fun id k hid => (by rw [eM17]; exact mt_wr_ne2 (by omega) : M17 id k = M id k).trans (hfr id k hid)
        by_cases c18 : (4 : Int32) ≤ x2
        · have hf := mt_ifT c18 hf
          obtain ⟨i1, i2⟩ := mt_so2 hf
          subst i1
          subst i2
          exact hfr
        · have hf := mt_ifF c18 hf
          obtain ⟨i1, i2⟩ := mt_so2 hf
          subst i1
          subst i2
          exact hfr
      · have hf := mt_ifF c16 hf
        by_cases c19 : x6 = (115 : Int32)
        · have hf := mt_ifT c19 hf
          refine mt_b1I hf (fun r21 hg20 hf => ?_)
          by_cases c22 : r21 = 0
          · have hf := mt_ifT c22 hf
            obtain ⟨i1, i2⟩ := mt_so2 hf
            subst i1
            subst i2
            exact hfr
          · have hf := mt_ifF c22 hf
            refine mt_ciI hf (fun _ hf => ?_)
            refine mt_ltI hf (fun M23 eM23 hf => ?_)
            have hfr : ∀ id k : Nat, ((id ≠ 147 ∨ k ≠ 10) ∧ (id ≠ 147 ∨ k ≠ 11) ∧ (id ≠ 147 ∨ k ≠ 8) ∧ (id ≠ 147 ∨ k ≠ 9) ∧ id ≠ 149 ∧ id ≠ 150 ∧ id ≠ 151 ∧ id ≠ 152 ∧ id ≠ 153 ∧ id ≠ 154 ∧ id ≠ 155) → M23 id k = M id k := fun id k hid => (by rw [eM23]; exact mt_wr_ne2 (by omega) : M23 id k = M id k).trans (hfr id k hid)
            obtain ⟨i1, i2⟩ := mt_so2 hf
            subst i1
            subst i2
            exact hfr
        · have hf := mt_ifF c19 hf
          by_cases c25 : x6 = (116 : Int32)
          · have hf := mt_ifT c25 hf
            by_cases c26 : (5 : Int32) < x2
            · have hf := mt_ifT c26 hf
              obtain ⟨i1, i2⟩ := mt_so2 hf
              subst i1
              subst i2
              exact hfr
            · have hf := mt_ifF c26 hf
              by_cases c27 : (M 147 8) = (7 : Int32)
              · have hf := mt_ifT c27 hf
                obtain ⟨i1, i2⟩ := mt_so2 hf
                subst i1
                subst i2
                exact hfr
              · have hf := mt_ifF c27 hf
                refine mt_ciI hf (fun _ hf => ?_)
                refine mt_b1I hf (fun M30 hg29 hf => ?_)
                have hfr : ∀ id k : Nat, ((id ≠ 147 ∨ k ≠ 10) ∧ (id ≠ 147 ∨ k ≠ 11) ∧ (id ≠ 147 ∨ k ≠ 8) ∧ (id ≠ 147 ∨ k ≠ 9) ∧ id ≠ 149 ∧ id ≠ 150 ∧ id ≠ 151 ∧ id ≠ 152 ∧ id ≠ 153 ∧ id ≠ 154 ∧ id ≠ 155) → M30 id k = M id k := fun id k hid => (fr_X12_adds x2 x4 (M 159 (((3 : Int32) * a1) + (2 : Int32)).toNatClampNeg) M hg29 id k (by omega)).trans (hfr id k hid)
                obtain ⟨i1, i2⟩ := mt_so2 hf
                subst i1
                subst i2
                exact hfr
          · have hf := mt_ifF c25 hf
            refine mt_ciI hf (fun _ hf => ?_)
            refine mt_b2I hf (fun r33 M34 hg32 hf => ?_)
            have hfr : ∀ id k : Nat, ((id ≠ 147 ∨ k ≠ 10) ∧ (id ≠ 147 ∨ k ≠ 11) ∧ (id ≠ 147 ∨ k ≠ 8) ∧ (id ≠ 147 ∨ k ≠ 9) ∧ id ≠ 149 ∧ id ≠ 150 ∧ id ≠ 151 ∧ id ≠ 152 ∧ id ≠ 153 ∧ id ≠ 154 ∧ id ≠ 155) → M34 id k = M id k := fun id k hid => (fr_X12_comesLine (M 157 a1.toNatClampNeg) x2 x4 M hg32 id k (by omega)).trans (hfr id k hid)
            refine mt_ckI hf (fun _ hf => ?_)
            obtain ⟨i1, i2⟩ := mt_so2 hf
            subst i1
            subst i2
            exact hfr
set_option maxHeartbeats 4000000 in
set_option maxRecDepth 100000 in
theorem fr_X12_passes (o1 n1 : Nat) (M : mt_M) {M' : mt_M} (hf : f_X12_passes o1 n1 M = some (M')) : ∀ id k : Nat, ((id ≠ 147 ∨ k ≠ 22) ∧ id ≠ o1 ∧ id ≠ 160) → (M') id k = M id k := by
  unfold f_X12_passes at hf
  have hfr : ∀ id k : Nat, ((id ≠ 147 ∨ k ≠ 22) ∧ id ≠ o1 ∧ id ≠ 160) → M id k = M id k := fun _ _ _ => rfl
  refine mt_lpI2 hf (fun (x1 : Int32) (M2 : mt_M) => (∀ id k : Nat, ((id ≠ 147 ∨ k ≠ 22) ∧ id ≠ o1 ∧ id ≠ 160) → M2 id k = M id k) → ∀ id k : Nat, ((id ≠ 147 ∨ k ≠ 22) ∧ id ≠ o1 ∧ id ≠ 160) → (M') id k = M id k) ?_ hfr
  intro k3 ih4 x1 M2 hf hfr
  by_cases c5 : (Int32.ofNat n1) ≤ x1
  · have hf := mt_ifT c5 hf
    have i1 := mt_so1 hf
    subst i1
    exact hfr
  · have hf := mt_ifF c5 hf
    refine mt_jn1 hf (fun (M6 : mt_M) => (∀ id k : Nat, ((id ≠ 147 ∨ k ≠ 22) ∧ id ≠ o1 ∧ id ≠ 160) → M6 id k = M id k) → ∀ id k : Nat, ((id ≠ 147 ∨ k ≠ 22) ∧ id ≠ o1 ∧ id ≠ 160) → (M') id k = M id k) ?_ ?_
    · intro M6 hf hfr
      refine mt_ltI hf (fun M9 eM9 hf => ?_)
      have hfr : ∀ id k : Nat, ((id ≠ 147 ∨ k ≠ 22) ∧ id ≠ o1 ∧ id ≠ 160) → M9 id k = M id k := fun id k hid => (by rw [eM9]; exact mt_wr_ne2 (by omega) : M9 id k = M6 id k).trans (hfr id k hid)
      refine mt_ltI hf (fun x10 _ hf => ?_)
      exact ih4 x10 M9 hf hfr
    · intro j7 hj8 hf
      by_cases c11 : (M2 147 21) = 0
      · have hf := mt_ifT c11 hf
        refine mt_ciI hf (fun _ hf => ?_)
        refine mt_ciI hf (fun _ hf => ?_)
        refine mt_ltI hf (fun M13 eM13 hf => ?_)
        have hfr : ∀ id k : Nat, ((id ≠ 147 ∨ k ≠ 22) ∧ id ≠ o1 ∧ id ≠ 160) → M13 id k = M id k := fun id k hid => (by rw [eM13]; exact mt_wr_ne2 (by omega) : M13 id k = M2 id k).trans (hfr id k hid)
        exact hj8 M13 hf hfr
      · have hf := mt_ifF c11 hf
        refine mt_ciI hf (fun _ hf => ?_)
        refine mt_ciI hf (fun _ hf => ?_)
        refine mt_ltI hf (fun M16 eM16 hf => ?_)
        have hfr : ∀ id k : Nat, ((id ≠ 147 ∨ k ≠ 22) ∧ id ≠ o1 ∧ id ≠ 160) → M16 id k = M id k := fun id k hid => (by rw [eM16]; exact mt_wr_ne2 (by omega) : M16 id k = M2 id k).trans (hfr id k hid)
        exact hj8 M16 hf hfr
set_option maxHeartbeats 4000000 in
set_option maxRecDepth 100000 in
theorem fr_X12_passOne (a1 : Int32) (M : mt_M) {r : Int32} {M' : mt_M} (hf : f_X12_passOne a1 M = some (r, M')) : ∀ id k : Nat, ((id ≠ 147 ∨ k ≠ 22) ∧ id ≠ 160) → (M') id k = M id k := by
  unfold f_X12_passOne at hf
  have hfr : ∀ id k : Nat, ((id ≠ 147 ∨ k ≠ 22) ∧ id ≠ 160) → M id k = M id k := fun _ _ _ => rfl
  refine mt_jn1 hf (fun (v1 : Int32) => (∀ id k : Nat, ((id ≠ 147 ∨ k ≠ 22) ∧ id ≠ 160) → M id k = M id k) → ∀ id k : Nat, ((id ≠ 147 ∨ k ≠ 22) ∧ id ≠ 160) → (M') id k = M id k) ?_ ?_
  · intro v1 hf hfr
    refine mt_jn1 hf (fun (M4 : mt_M) => (∀ id k : Nat, ((id ≠ 147 ∨ k ≠ 22) ∧ id ≠ 160) → M4 id k = M id k) → ∀ id k : Nat, ((id ≠ 147 ∨ k ≠ 22) ∧ id ≠ 160) → (M') id k = M id k) ?_ ?_
    · intro M4 hf hfr
      refine mt_ltI hf (fun M7 eM7 hf => ?_)
      have hfr : ∀ id k : Nat, ((id ≠ 147 ∨ k ≠ 22) ∧ id ≠ 160) → M7 id k = M id k := fun id k hid => (by rw [eM7]; exact mt_wr_ne2 (by omega) : M7 id k = M4 id k).trans (hfr id k hid)
      obtain ⟨i1, i2⟩ := mt_so2 hf
      subst i1
      subst i2
      exact hfr
    · intro j5 hj6 hf
      by_cases c8 : (M 147 21) = 0
      · have hf := mt_ifT c8 hf
        exact hj6 M hf hfr
      · have hf := mt_ifF c8 hf
        refine mt_ciI hf (fun _ hf => ?_)
        refine mt_ltI hf (fun M9 eM9 hf => ?_)
        have hfr : ∀ id k : Nat, ((id ≠ 147 ∨ k ≠ 22) ∧ id ≠ 160) → M9 id k = M id k := fun id k hid => (by rw [eM9]; exact mt_wr_ne2 (by omega) : M9 id k = M id k).trans (hfr id k hid)
        exact hj6 M9 hf hfr
  · intro j2 hj3 hf
    by_cases c11 : (M 147 21) = 0
    · have hf := mt_ifT c11 hf
      refine mt_ciI hf (fun _ hf => ?_)
      exact hj3 (M 160 (M 147 22).toNatClampNeg) hf hfr
    · have hf := mt_ifF c11 hf
      exact hj3 a1 hf hfr
set_option maxHeartbeats 4000000 in
set_option maxRecDepth 100000 in
theorem fr_X12_passesAll (a1 : Int32) (a2 : Int32) (M : mt_M) {M' : mt_M} (hf : f_X12_passesAll a1 a2 M = some (M')) : ∀ id k : Nat, ((id ≠ 147 ∨ k ≠ 10) ∧ (id ≠ 147 ∨ k ≠ 11) ∧ (id ≠ 147 ∨ k ≠ 21) ∧ (id ≠ 147 ∨ k ≠ 22) ∧ (id ≠ 147 ∨ k ≠ 8) ∧ (id ≠ 147 ∨ k ≠ 9) ∧ id ≠ 149 ∧ id ≠ 150 ∧ id ≠ 151 ∧ id ≠ 152 ∧ id ≠ 153 ∧ id ≠ 154 ∧ id ≠ 155 ∧ id ≠ 160) → (M') id k = M id k := by
  unfold f_X12_passesAll at hf
  have hfr : ∀ id k : Nat, ((id ≠ 147 ∨ k ≠ 10) ∧ (id ≠ 147 ∨ k ≠ 11) ∧ (id ≠ 147 ∨ k ≠ 21) ∧ (id ≠ 147 ∨ k ≠ 22) ∧ (id ≠ 147 ∨ k ≠ 8) ∧ (id ≠ 147 ∨ k ≠ 9) ∧ id ≠ 149 ∧ id ≠ 150 ∧ id ≠ 151 ∧ id ≠ 152 ∧ id ≠ 153 ∧ id ≠ 154 ∧ id ≠ 155 ∧ id ≠ 160) → M id k = M id k := fun _ _ _ => rfl
  refine mt_ltI hf (fun M1 eM1 hf => ?_)
  have hfr : ∀ id k : Nat, ((id ≠ 147 ∨ k ≠ 10) ∧ (id ≠ 147 ∨ k ≠ 11) ∧ (id ≠ 147 ∨ k ≠ 21) ∧ (id ≠ 147 ∨ k ≠ 22) ∧ (id ≠ 147 ∨ k ≠ 8) ∧ (id ≠ 147 ∨ k ≠ 9) ∧ id ≠ 149 ∧ id ≠ 150 ∧ id ≠ 151 ∧ id ≠ 152 ∧ id ≠ 153 ∧ id ≠ 154 ∧ id ≠ 155 ∧ id ≠ 160) → M1 id k = M id k := fun id k hid => (by rw [eM1]; exact mt_wr_ne2 (by omega) : M1 id k = M id k).trans (hfr id k hid)
  refine mt_ckI hf (fun _ hf => ?_)
  refine mt_ltI hf (fun M2 eM2 hf => ?_)
  have hfr : ∀ id k : Nat, ((id ≠ 147 ∨ k ≠ 10) ∧ (id ≠ 147 ∨ k ≠ 11) ∧ (id ≠ 147 ∨ k ≠ 21) ∧ (id ≠ 147 ∨ k ≠ 22) ∧ (id ≠ 147 ∨ k ≠ 8) ∧ (id ≠ 147 ∨ k ≠ 9) ∧ id ≠ 149 ∧ id ≠ 150 ∧ id ≠ 151 ∧ id ≠ 152 ∧ id ≠ 153 ∧ id ≠ 154 ∧ id ≠ 155 ∧ id ≠ 160) → M2 id k = M id k := fun id k hid => (by rw [eM2]; exact mt_wr_ne2 (by omega) : M2 id k = M1 id k).trans (hfr id k hid)
  refine mt_b1I hf (fun M5 hg4 hf => ?_)
  have hfr : ∀ id k : Nat, ((id ≠ 147 ∨ k ≠ 10) ∧ (id ≠ 147 ∨ k ≠ 11) ∧ (id ≠ 147 ∨ k ≠ 21) ∧ (id ≠ 147 ∨ k ≠ 22) ∧ (id ≠ 147 ∨ k ≠ 8) ∧ (id ≠ 147 ∨ k ≠ 9) ∧ id ≠ 149 ∧ id ≠ 150 ∧ id ≠ 151 ∧ id ≠ 152 ∧ id ≠ 153 ∧ id ≠ 154 ∧ id ≠ 155 ∧ id ≠ 160) → M5 id k = M id k := fun id k hid => (fr_X12_passes 149 7 M2 hg4 id k (by omega)).trans (hfr id k hid)
  refine mt_b1I hf (fun M7 hg6 hf => ?_)
  have hfr : ∀ id k : Nat, ((id ≠ 147 ∨ k ≠ 10) ∧ (id ≠ 147 ∨ k ≠ 11) ∧ (id ≠ 147 ∨ k ≠ 21) ∧ (id ≠ 147 ∨ k ≠ 22) ∧ (id ≠ 147 ∨ k ≠ 8) ∧ (id ≠ 147 ∨ k ≠ 9) ∧ id ≠ 149 ∧ id ≠ 150 ∧ id ≠ 151 ∧ id ≠ 152 ∧ id ≠ 153 ∧ id ≠ 154 ∧ id ≠ 155 ∧ id ≠ 160) → M7 id k = M id k := fun id k hid => (fr_X12_passes 150 7 M5 hg6 id k (by omega)).trans (hfr id k hid)
  refine mt_b1I hf (fun M9 hg8 hf => ?_)
  have hfr : ∀ id k : Nat, ((id ≠ 147 ∨ k ≠ 10) ∧ (id ≠ 147 ∨ k ≠ 11) ∧ (id ≠ 147 ∨ k ≠ 21) ∧ (id ≠ 147 ∨ k ≠ 22) ∧ (id ≠ 147 ∨ k ≠ 8) ∧ (id ≠ 147 ∨ k ≠ 9) ∧ id ≠ 149 ∧ id ≠ 150 ∧ id ≠ 151 ∧ id ≠ 152 ∧ id ≠ 153 ∧ id ≠ 154 ∧ id ≠ 155 ∧ id ≠ 160) → M9 id k = M id k := fun id k hid => (fr_X12_passes 151 7 M7 hg8 id k (by omega)).trans (hfr id k hid)
  refine mt_b1I hf (fun M11 hg10 hf => ?_)
  have hfr : ∀ id k : Nat, ((id ≠ 147 ∨ k ≠ 10) ∧ (id ≠ 147 ∨ k ≠ 11) ∧ (id ≠ 147 ∨ k ≠ 21) ∧ (id ≠ 147 ∨ k ≠ 22) ∧ (id ≠ 147 ∨ k ≠ 8) ∧ (id ≠ 147 ∨ k ≠ 9) ∧ id ≠ 149 ∧ id ≠ 150 ∧ id ≠ 151 ∧ id ≠ 152 ∧ id ≠ 153 ∧ id ≠ 154 ∧ id ≠ 155 ∧ id ≠ 160) → M11 id k = M id k := fun id k hid => (fr_X12_passes 152 7 M9 hg10 id k (by omega)).trans (hfr id k hid)
  refine mt_b1I hf (fun M13 hg12 hf => ?_)
  have hfr : ∀ id k : Nat, ((id ≠ 147 ∨ k ≠ 10) ∧ (id ≠ 147 ∨ k ≠ 11) ∧ (id ≠ 147 ∨ k ≠ 21) ∧ (id ≠ 147 ∨ k ≠ 22) ∧ (id ≠ 147 ∨ k ≠ 8) ∧ (id ≠ 147 ∨ k ≠ 9) ∧ id ≠ 149 ∧ id ≠ 150 ∧ id ≠ 151 ∧ id ≠ 152 ∧ id ≠ 153 ∧ id ≠ 154 ∧ id ≠ 155 ∧ id ≠ 160) → M13 id k = M id k := fun id k hid => (fr_X12_passes 153 14 M11 hg12 id k (by omega)).trans (hfr id k hid)
  refine mt_b1I hf (fun M15 hg14 hf => ?_)
  have hfr : ∀ id k : Nat, ((id ≠ 147 ∨ k ≠ 10) ∧ (id ≠ 147 ∨ k ≠ 11) ∧ (id ≠ 147 ∨ k ≠ 21) ∧ (id ≠ 147 ∨ k ≠ 22) ∧ (id ≠ 147 ∨ k ≠ 8) ∧ (id ≠ 147 ∨ k ≠ 9) ∧ id ≠ 149 ∧ id ≠ 150 ∧ id ≠ 151 ∧ id ≠ 152 ∧ id ≠ 153 ∧ id ≠ 154 ∧ id ≠ 155 ∧ id ≠ 160) → M15 id k = M id k := fun id k hid => (fr_X12_passes 154 14 M13 hg14 id k (by omega)).trans (hfr id k hid)
  refine mt_b1I hf (fun M17 hg16 hf => ?_)
  have hfr : ∀ id k : Nat, ((id ≠ 147 ∨ k ≠ 10) ∧ (id ≠ 147 ∨ k ≠ 11) ∧ (id ≠ 147 ∨ k ≠ 21) ∧ (id ≠ 147 ∨ k ≠ 22) ∧ (id ≠ 147 ∨ k ≠ 8) ∧ (id ≠ 147 ∨ k ≠ 9) ∧ id ≠ 149 ∧ id ≠ 150 ∧ id ≠ 151 ∧ id ≠ 152 ∧ id ≠ 153 ∧ id ≠ 154 ∧ id ≠ 155 ∧ id ≠ 160) → M17 id k = M id k := fun id k hid => (fr_X12_passes 155 3 M15 hg16 id k (by omega)).trans (hfr id k hid)
  refine mt_b2I hf (fun r19 M20 hg18 hf => ?_)
  have hfr : ∀ id k : Nat, ((id ≠ 147 ∨ k ≠ 10) ∧ (id ≠ 147 ∨ k ≠ 11) ∧ (id ≠ 147 ∨ k ≠ 21) ∧ (id ≠ 147 ∨ k ≠ 22) ∧ (id ≠ 147 ∨ k ≠ 8) ∧ (id ≠ 147 ∨ k ≠ 9) ∧ id ≠ 149 ∧ id ≠ 150 ∧ id ≠ 151 ∧ id ≠ 152 ∧ id ≠ 153 ∧ id ≠ 154 ∧ id ≠ 155 ∧ id ≠ 160) → M20 id k = M id k := fun id k hid => (fr_X12_passOne (M17 147 8) M17 hg18 id k (by omega)).trans (hfr id k hid)
  refine mt_ltI hf (fun M21 eM21 hf => ?_)
  have hfr : ∀ id k : Nat, ((id ≠ 147 ∨ k ≠ 10) ∧ (id ≠ 147 ∨ k ≠ 11) ∧ (id ≠ 147 ∨ k ≠ 21) ∧ (id ≠ 147 ∨ k ≠ 22) ∧ (id ≠ 147 ∨ k ≠ 8) ∧ (id ≠ 147 ∨ k ≠ 9) ∧ id ≠ 149 ∧ id ≠ 150 ∧ id ≠ 151 ∧ id ≠ 152 ∧ id ≠ 153 ∧ id ≠ 154 ∧ id ≠ 155 ∧ id ≠ 160) → M21 id k = M id k := fun id k hid => (by rw [eM21]; exact mt_wr_ne2 (by omega) : M21 id k = M20 id k).trans (hfr id k hid)
  refine mt_b2I hf (fun r23 M24 hg22 hf => ?_)
  have hfr : ∀ id k : Nat, ((id ≠ 147 ∨ k ≠ 10) ∧ (id ≠ 147 ∨ k ≠ 11) ∧ (id ≠ 147 ∨ k ≠ 21) ∧ (id ≠ 147 ∨ k ≠ 22) ∧ (id ≠ 147 ∨ k ≠ 8) ∧ (id ≠ 147 ∨ k ≠ 9) ∧ id ≠ 149 ∧ id ≠ 150 ∧ id ≠ 151 ∧ id ≠ 152 ∧ id ≠ 153 ∧ id ≠ 154 ∧ id ≠ 155 ∧ id ≠ 160) → M24 id k = M id k := fun id k hid => (fr_X12_passOne (M21 147 9) M21 hg22 id k (by omega)).trans (hfr id k hid)
  refine mt_ltI hf (fun M25 eM25 hf => ?_)
  have hfr : ∀ id k : Nat, ((id ≠ 147 ∨ k ≠ 10) ∧ (id ≠ 147 ∨ k ≠ 11) ∧ (id ≠ 147 ∨ k ≠ 21) ∧ (id ≠ 147 ∨ k ≠ 22) ∧ (id ≠ 147 ∨ k ≠ 8) ∧ (id ≠ 147 ∨ k ≠ 9) ∧ id ≠ 149 ∧ id ≠ 150 ∧ id ≠ 151 ∧ id ≠ 152 ∧ id ≠ 153 ∧ id ≠ 154 ∧ id ≠ 155 ∧ id ≠ 160) → M25 id k = M id k := fun id k hid => (by rw [eM25]; exact mt_wr_ne2 (by omega) : M25 id k = M24 id k).trans (hfr id k hid)
  refine mt_b2I hf (fun r27 M28 hg26 hf => ?_)
  have hfr : ∀ id k : Nat, ((id ≠ 147 ∨ k ≠ 10) ∧ (id ≠ 147 ∨ k ≠ 11) ∧ (id ≠ 147 ∨ k ≠ 21) ∧ (id ≠ 147 ∨ k ≠ 22) ∧ (id ≠ 147 ∨ k ≠ 8) ∧ (id ≠ 147 ∨ k ≠ 9) ∧ id ≠ 149 ∧ id ≠ 150 ∧ id ≠ 151 ∧ id ≠ 152 ∧ id ≠ 153 ∧ id ≠ 154 ∧ id ≠ 155 ∧ id ≠ 160) → M28 id k = M id k := fun id k hid => (fr_X12_passOne (M25 147 10) M25 hg26 id k (by omega)).trans (hfr id k hid)
  refine mt_ltI hf (fun M29 eM29 hf => ?_)
  have hfr : ∀ id k : Nat, ((id ≠ 147 ∨ k ≠ 10) ∧ (id ≠ 147 ∨ k ≠ 11) ∧ (id ≠ 147 ∨ k ≠ 21) ∧ (id ≠ 147 ∨ k ≠ 22) ∧ (id ≠ 147 ∨ k ≠ 8) ∧ (id ≠ 147 ∨ k ≠ 9) ∧ id ≠ 149 ∧ id ≠ 150 ∧ id ≠ 151 ∧ id ≠ 152 ∧ id ≠ 153 ∧ id ≠ 154 ∧ id ≠ 155 ∧ id ≠ 160) → M29 id k = M id k := fun id k hid => (by rw [eM29]; exact mt_wr_ne2 (by omega) : M29 id k = M28 id k).trans (hfr id k hid)
  refine mt_b2I hf (fun r31 M32 hg30 hf => ?_)
  have hfr : ∀ id k : Nat, ((id ≠ 147 ∨ k ≠ 10) ∧ (id ≠ 147 ∨ k ≠ 11) ∧ (id ≠ 147 ∨ k ≠ 21) ∧ (id ≠ 147 ∨ k ≠ 22) ∧ (id ≠ 147 ∨ k ≠ 8) ∧ (id ≠ 147 ∨ k ≠ 9) ∧ id ≠ 149 ∧ id ≠ 150 ∧ id ≠ 151 ∧ id ≠ 152 ∧ id ≠ 153 ∧ id ≠ 154 ∧ id ≠ 155 ∧ id ≠ 160) → M32 id k = M id k := fun id k hid => (fr_X12_passOne (M29 147 11) M29 hg30 id k (by omega)).trans (hfr id k hid)
  refine mt_ltI hf (fun M33 eM33 hf => ?_)
  have hfr : ∀ id k : Nat, ((id ≠ 147 ∨ k ≠ 10) ∧ (id ≠ 147 ∨ k ≠ 11) ∧ (id ≠ 147 ∨ k ≠ 21) ∧ (id ≠ 147 ∨ k ≠ 22) ∧ (id ≠ 147 ∨ k ≠ 8) ∧ (id ≠ 147 ∨ k ≠ 9) ∧ id ≠ 149 ∧ id ≠ 150 ∧ id ≠ 151 ∧ id ≠ 152 ∧ id ≠ 153 ∧ id ≠ 154 ∧ id ≠ 155 ∧ id ≠ 160) → M33 id k = M id k := fun id k hid => (by rw [eM33]; exact mt_wr_ne2 (by omega) : M33 id k = M32 id k).trans (hfr id k hid)
  have i1 := mt_so1 hf
  subst i1
  exact hfr
set_option maxHeartbeats 4000000 in
set_option maxRecDepth 100000 in
theorem fr_X12_house (M : mt_M) {r : Int32} {M' : mt_M} (hf : f_X12_house M = some (r, M')) : ∀ id k : Nat, ((id ≠ 147 ∨ k ≠ 10) ∧ (id ≠ 147 ∨ k ≠ 11) ∧ (id ≠ 147 ∨ k ≠ 16) ∧ (id ≠ 147 ∨ k ≠ 17) ∧ (id ≠ 147 ∨ k ≠ 18) ∧ (id ≠ 147 ∨ k ≠ 21) ∧ (id ≠ 147 ∨ k ≠ 22) ∧ (id ≠ 147 ∨ k ≠ 23) ∧ (id ≠ 147 ∨ k ≠ 8) ∧ (id ≠ 147 ∨ k ≠ 9) ∧ id ≠ 149 ∧ id ≠ 150 ∧ id ≠ 151 ∧ id ≠ 152 ∧ id ≠ 153 ∧ id ≠ 154 ∧ id ≠ 155 ∧ id ≠ 157 ∧ id ≠ 158 ∧ id ≠ 159 ∧ id ≠ 160) → (M') id k = M id k := by
  unfold f_X12_house at hf
  have hfr : ∀ id k : Nat, ((id ≠ 147 ∨ k ≠ 10) ∧ (id ≠ 147 ∨ k ≠ 11) ∧ (id ≠ 147 ∨ k ≠ 16) ∧ (id ≠ 147 ∨ k ≠ 17) ∧ (id ≠ 147 ∨ k ≠ 18) ∧ (id ≠ 147 ∨ k ≠ 21) ∧ (id ≠ 147 ∨ k ≠ 22) ∧ (id ≠ 147 ∨ k ≠ 23) ∧ (id ≠ 147 ∨ k ≠ 8) ∧ (id ≠ 147 ∨ k ≠ 9) ∧ id ≠ 149 ∧ id ≠ 150 ∧ id ≠ 151 ∧ id ≠ 152 ∧ id ≠ 153 ∧ id ≠ 154 ∧ id ≠ 155 ∧ id ≠ 157 ∧ id ≠ 158 ∧ id ≠ 159 ∧ id ≠ 160) → M id k = M id k := fun _ _ _ => rfl
  refine mt_ltI hf (fun M1 eM1 hf => ?_)
  have hfr : ∀ id k : Nat, ((id ≠ 147 ∨ k ≠ 10) ∧ (id ≠ 147 ∨ k ≠ 11) ∧ (id ≠ 147 ∨ k ≠ 16) ∧ (id ≠ 147 ∨ k ≠ 17) ∧ (id ≠ 147 ∨ k ≠ 18) ∧ (id ≠ 147 ∨ k ≠ 21) ∧ (id ≠ 147 ∨ k ≠ 22) ∧ (id ≠ 147 ∨ k ≠ 23) ∧ (id ≠ 147 ∨ k ≠ 8) ∧ (id ≠ 147 ∨ k ≠ 9) ∧ id ≠ 149 ∧ id ≠ 150 ∧ id ≠ 151 ∧ id ≠ 152 ∧ id ≠ 153 ∧ id ≠ 154 ∧ id ≠ 155 ∧ id ≠ 157 ∧ id ≠ 158 ∧ id ≠ 159 ∧ id ≠ 160) → M1 id k = M id k := fun id k hid => (by rw [eM1]; exact mt_wr_ne2 (by omega) : M1 id k = M id k).trans (hfr id k hid)
  refine mt_ltI hf (fun M2 eM2 hf => ?_)
  have hfr : ∀ id k : Nat, ((id ≠ 147 ∨ k ≠ 10) ∧ (id ≠ 147 ∨ k ≠ 11) ∧ (id ≠ 147 ∨ k ≠ 16) ∧ (id ≠ 147 ∨ k ≠ 17) ∧ (id ≠ 147 ∨ k ≠ 18) ∧ (id ≠ 147 ∨ k ≠ 21) ∧ (id ≠ 147 ∨ k ≠ 22) ∧ (id ≠ 147 ∨ k ≠ 23) ∧ (id ≠ 147 ∨ k ≠ 8) ∧ (id ≠ 147 ∨ k ≠ 9) ∧ id ≠ 149 ∧ id ≠ 150 ∧ id ≠ 151 ∧ id ≠ 152 ∧ id ≠ 153 ∧ id ≠ 154 ∧ id ≠ 155 ∧ id ≠ 157 ∧ id ≠ 158 ∧ id ≠ 159 ∧ id ≠ 160) → M2 id k = M id k := fun id k hid => (by rw [eM2]; exact mt_wr_ne2 (by omega) : M2 id k = M1 id k).trans (hfr id k hid)
  refine mt_lpI2 hf (fun (x3 : Int32) (M4 : mt_M) => (∀ id k : Nat, ((id ≠ 147 ∨ k ≠ 10) ∧ (id ≠ 147 ∨ k ≠ 11) ∧ (id ≠ 147 ∨ k ≠ 16) ∧ (id ≠ 147 ∨ k ≠ 17) ∧ (id ≠ 147 ∨ k ≠ 18) ∧ (id ≠ 147 ∨ k ≠ 21) ∧ (id ≠ 147 ∨ k ≠ 22) ∧ (id ≠ 147 ∨ k ≠ 23) ∧ (id ≠ 147 ∨ k ≠ 8) ∧ (id ≠ 147 ∨ k ≠ 9) ∧ id ≠ 149 ∧ id ≠ 150 ∧ id ≠ 151 ∧ id ≠ 152 ∧ id ≠ 153 ∧ id ≠ 154 ∧ id ≠ 155 ∧ id ≠ 157 ∧ id ≠ 158 ∧ id ≠ 159 ∧ id ≠ 160) → M4 id k = M id k) → ∀ id k : Nat, ((id ≠ 147 ∨ k ≠ 10) ∧ (id ≠ 147 ∨ k ≠ 11) ∧ (id ≠ 147 ∨ k ≠ 16) ∧ (id ≠ 147 ∨ k ≠ 17) ∧ (id ≠ 147 ∨ k ≠ 18) ∧ (id ≠ 147 ∨ k ≠ 21) ∧ (id ≠ 147 ∨ k ≠ 22) ∧ (id ≠ 147 ∨ k ≠ 23) ∧ (id ≠ 147 ∨ k ≠ 8) ∧ (id ≠ 147 ∨ k ≠ 9) ∧ id ≠ 149 ∧ id ≠ 150 ∧ id ≠ 151 ∧ id ≠ 152 ∧ id ≠ 153 ∧ id ≠ 154 ∧ id ≠ 155 ∧ id ≠ 157 ∧ id ≠ 158 ∧ id ≠ 159 ∧ id ≠ 160) → (M') id k = M id k) ?_ hfr
  intro k5 ih6 x3 M4 hf hfr
  refine mt_jn0 hf ((∀ id k : Nat, ((id ≠ 147 ∨ k ≠ 10) ∧ (id ≠ 147 ∨ k ≠ 11) ∧ (id ≠ 147 ∨ k ≠ 16) ∧ (id ≠ 147 ∨ k ≠ 17) ∧ (id ≠ 147 ∨ k ≠ 18) ∧ (id ≠ 147 ∨ k ≠ 21) ∧ (id ≠ 147 ∨ k ≠ 22) ∧ (id ≠ 147 ∨ k ≠ 23) ∧ (id ≠ 147 ∨ k ≠ 8) ∧ (id ≠ 147 ∨ k ≠ 9) ∧ id ≠ 149 ∧ id ≠ 150 ∧ id ≠ 151 ∧ id ≠ 152 ∧ id ≠ 153 ∧ id ≠ 154 ∧ id ≠ 155 ∧ id ≠ 157 ∧ id ≠ 158 ∧ id ≠ 159 ∧ id ≠ 160) → M4 id k = M id k) → ∀ id k : Nat, ((id ≠ 147 ∨ k ≠ 10) ∧ (id ≠ 147 ∨ k ≠ 11) ∧ (id ≠ 147 ∨ k ≠ 16) ∧ (id ≠ 147 ∨ k ≠ 17) ∧ (id ≠ 147 ∨ k ≠ 18) ∧ (id ≠ 147 ∨ k ≠ 21) ∧ (id ≠ 147 ∨ k ≠ 22) ∧ (id ≠ 147 ∨ k ≠ 23) ∧ (id ≠ 147 ∨ k ≠ 8) ∧ (id ≠ 147 ∨ k ≠ 9) ∧ id ≠ 149 ∧ id ≠ 150 ∧ id ≠ 151 ∧ id ≠ 152 ∧ id ≠ 153 ∧ id ≠ 154 ∧ id ≠ 155 ∧ id ≠ 157 ∧ id ≠ 158 ∧ id ≠ 159 ∧ id ≠ 160) → (M') id k = M id k) ?_ ?_
  · intro hf hfr
    refine mt_ltI hf (fun M9 eM9 hf => ?_)
    have hfr : ∀ id k : Nat, ((id ≠ 147 ∨ k ≠ 10) ∧ (id ≠ 147 ∨ k ≠ 11) ∧ (id ≠ 147 ∨ k ≠ 16) ∧ (id ≠ 147 ∨ k ≠ 17) ∧ (id ≠ 147 ∨ k ≠ 18) ∧ (id ≠ 147 ∨ k ≠ 21) ∧ (id ≠ 147 ∨ k ≠ 22) ∧ (id ≠ 147 ∨ k ≠ 23) ∧ (id ≠ 147 ∨ k ≠ 8) ∧ (id ≠ 147 ∨ k ≠ 9) ∧ id ≠ 149 ∧ id ≠ 150 ∧ id ≠ 151 ∧ id ≠ 152 ∧ id ≠ 153 ∧ id ≠ 154 ∧ id ≠ 155 ∧ id ≠ 157 ∧ id ≠ 158 ∧ id ≠ 159 ∧ id ≠ 160) → M9 id k = M id k := fun id k hid => (by rw [eM9]; exact mt_wr_ne2 (by omega) : M9 id k = M4 id k).trans (hfr id k hid)
    by_cases c10 : x3 = 0
    · have hf := mt_ifT c10 hf
      obtain ⟨i1, i2⟩ := mt_so2 hf
      subst i1
      subst i2
      exact hfr
    · have hf := mt_ifF c10 hf
      refine mt_b1I hf (fun M12 hg11 hf => ?_)
      have hfr : ∀ id k : Nat, ((id ≠ 147 ∨ k ≠ 10) ∧ (id ≠ 147 ∨ k ≠ 11) ∧ (id ≠ 147 ∨ k ≠ 16) ∧ (id ≠ 147 ∨ k ≠ 17) ∧ (id ≠ 147 ∨ k ≠ 18) ∧ (id ≠ 147 ∨ k ≠ 21) ∧ (id ≠ 147 ∨ k ≠ 22) ∧ (id ≠ 147 ∨ k ≠ 23) ∧ (id ≠ 147 ∨ k ≠ 8) ∧ (id ≠ 147 ∨ k ≠ 9) ∧ id ≠ 149 ∧ id ≠ 150 ∧ id ≠ 151 ∧ id ≠ 152 ∧ id ≠ 153 ∧ id ≠ 154 ∧ id ≠ 155 ∧ id ≠ 157 ∧ id ≠ 158 ∧ id ≠ 159 ∧ id ≠ 160) → M12 id k = M id k := fun id k hid => (fr_X12_passesAll (1 : Int32) (1 : Int32) M9 hg11 id k (by omega)).trans (hfr id k hid)
      refine mt_lpI2 hf (fun (x13 : Int32) (M14 : mt_M) => (∀ id k : Nat, ((id ≠ 147 ∨ k ≠ 10) ∧ (id ≠ 147 ∨ k ≠ 11) ∧ (id ≠ 147 ∨ k ≠ 16) ∧ (id ≠ 147 ∨ k ≠ 17) ∧ (id ≠ 147 ∨ k ≠ 18) ∧ (id ≠ 147 ∨ k ≠ 21) ∧ (id ≠ 147 ∨ k ≠ 22) ∧ (id ≠ 147 ∨ k ≠ 23) ∧ (id ≠ 147 ∨ k ≠ 8) ∧ (id ≠ 147 ∨ k ≠ 9) ∧ id ≠ 149 ∧ id ≠ 150 ∧ id ≠ 151 ∧ id ≠ 152 ∧ id ≠ 153 ∧ id ≠ 154 ∧ id ≠ 155 ∧ id ≠ 157 ∧ id ≠ 158 ∧ id ≠ 159 ∧ id ≠ 160) → M14 id k = M id k) → ∀ id k : Nat, ((id ≠ 147 ∨ k ≠ 10) ∧ (id ≠ 147 ∨ k ≠ 11) ∧ (id ≠ 147 ∨ k ≠ 16) ∧ (id ≠ 147 ∨ k ≠ 17) ∧ (id ≠ 147 ∨ k ≠ 18) ∧ (id ≠ 147 ∨ k ≠ 21) ∧ (id ≠ 147 ∨ k ≠ 22) ∧ (id ≠ 147 ∨ k ≠ 23) ∧ (id ≠ 147 ∨ k ≠ 8) ∧ (id ≠ 147 ∨ k ≠ 9) ∧ id ≠ 149 ∧ id ≠ 150 ∧ id ≠ 151 ∧ id ≠ 152 ∧ id ≠ 153 ∧ id ≠ 154 ∧ id ≠ 155 ∧ id ≠ 157 ∧ id ≠ 158 ∧ id ≠ 159 ∧ id ≠ 160) → (M') id k = M id k) ?_ hfr
      intro k15 ih16 x13 M14 hf hfr
      by_cases c17 : (M14 147 18) ≤ x13
      · have hf := mt_ifT c17 hf
        refine mt_ltI hf (fun M18 eM18 hf => ?_)
        have hfr : ∀ id k : Nat, ((id ≠ 147 ∨ k ≠ 10) ∧ (id ≠ 147 ∨ k ≠ 11) ∧ (id ≠ 147 ∨ k ≠ 16) ∧ (id ≠ 147 ∨ k ≠ 17) ∧ (id ≠ 147 ∨ k ≠ 18) ∧ (id ≠ 147 ∨ k ≠ 21) ∧ (id ≠ 147 ∨ k ≠ 22) ∧ (id ≠ 147 ∨ k ≠ 23) ∧ (id ≠ 147 ∨ k ≠ 8) ∧ (id ≠ 147 ∨ k ≠ 9) ∧ id ≠ 149 ∧ id ≠ 150 ∧ id ≠ 151 ∧ id ≠ 152 ∧ id ≠ 153 ∧ id ≠ 154 ∧ id ≠ 155 ∧ id ≠ 157 ∧ id ≠ 158 ∧ id ≠ 159 ∧ id ≠ 160) → M18 id k = M id k := fun id k hid => (by rw [eM18]; exact mt_wr_ne2 (by omega) : M18 id k = M14 id k).trans (hfr id k hid)
        obtain ⟨i1, i2⟩ := mt_so2 hf
        subst i1
        subst i2
        exact hfr
      · have hf := mt_ifF c17 hf
        refine mt_b2I hf (fun r20 M21 hg19 hf => ?_)
        have hfr : ∀ id k : Nat, ((id ≠ 147 ∨ k ≠ 10) ∧ (id ≠ 147 ∨ k ≠ 11) ∧ (id ≠ 147 ∨ k ≠ 16) ∧ (id ≠ 147 ∨ k ≠ 17) ∧ (id ≠ 147 ∨ k ≠ 18) ∧ (id ≠ 147 ∨ k ≠ 21) ∧ (id ≠ 147 ∨ k ≠ 22) ∧ (id ≠ 147 ∨ k ≠ 23) ∧ (id ≠ 147 ∨ k ≠ 8) ∧ (id ≠ 147 ∨ k ≠ 9) ∧ id ≠ 149 ∧ id ≠ 150 ∧ id ≠ 151 ∧ id ≠ 152 ∧ id ≠ 153 ∧ id ≠ 154 ∧ id ≠ 155 ∧ id ≠ 157 ∧ id ≠ 158 ∧ id ≠ 159 ∧ id ≠ 160) → M21 id k = M id k := fun id k hid => (fr_X12_comes x13 M14 hg19 id k (by omega)).trans (hfr id k hid)
        by_cases c22 : r20 = 0
        · have hf := mt_ifT c22 hf
          refine mt_b1I hf (fun M24 hg23 hf => ?_)
          have hfr : ∀ id k : Nat, ((id ≠ 147 ∨ k ≠ 10) ∧ (id ≠ 147 ∨ k ≠ 11) ∧ (id ≠ 147 ∨ k ≠ 16) ∧ (id ≠ 147 ∨ k ≠ 17) ∧ (id ≠ 147 ∨ k ≠ 18) ∧ (id ≠ 147 ∨ k ≠ 21) ∧ (id ≠ 147 ∨ k ≠ 22) ∧ (id ≠ 147 ∨ k ≠ 23) ∧ (id ≠ 147 ∨ k ≠ 8) ∧ (id ≠ 147 ∨ k ≠ 9) ∧ id ≠ 149 ∧ id ≠ 150 ∧ id ≠ 151 ∧ id ≠ 152 ∧ id ≠ 153 ∧ id ≠ 154 ∧ id ≠ 155 ∧ id ≠ 157 ∧ id ≠ 158 ∧ id ≠ 159 ∧ id ≠ 160) → M24 id k = M id k := fun id k hid => (fr_X12_passesAll (1 : Int32) (0 : Int32) M21 hg23 id k (by omega)).trans (hfr id k hid)
          refine mt_ciI hf (fun _ hf => ?_)
          obtain ⟨i1, i2⟩ := mt_so2 hf
          subst i1
          subst i2
          exact hfr
        · have hf := mt_ifF c22 hf
          refine mt_ltI hf (fun x26 _ hf => ?_)
          exact ih16 x26 M21 hf hfr
  · intro j7 hj8 hf
    by_cases c27 : x3 = 0
    · have hf := mt_ifT c27 hf
      exact hj8 hf hfr
    · have hf := mt_ifF c27 hf
      refine mt_jn0 hf ((∀ id k : Nat, ((id ≠ 147 ∨ k ≠ 10) ∧ (id ≠ 147 ∨ k ≠ 11) ∧ (id ≠ 147 ∨ k ≠ 16) ∧ (id ≠ 147 ∨ k ≠ 17) ∧ (id ≠ 147 ∨ k ≠ 18) ∧ (id ≠ 147 ∨ k ≠ 21) ∧ (id ≠ 147 ∨ k ≠ 22) ∧ (id ≠ 147 ∨ k ≠ 23) ∧ (id ≠ 147 ∨ k ≠ 8) ∧ (id ≠ 147 ∨ k ≠ 9) ∧ id ≠ 149 ∧ id ≠ 150 ∧ id ≠ 151 ∧ id ≠ 152 ∧ id ≠ 153 ∧ id ≠ 154 ∧ id ≠ 155 ∧ id ≠ 157 ∧ id ≠ 158 ∧ id ≠ 159 ∧ id ≠ 160) → M4 id k = M id k) → ∀ id k : Nat, ((id ≠ 147 ∨ k ≠ 10) ∧ (id ≠ 147 ∨ k ≠ 11) ∧ (id ≠ 147 ∨ k ≠ 16) ∧ (id ≠ 147 ∨ k ≠ 17) ∧ (id ≠ 147 ∨ k ≠ 18) ∧ (id ≠ 147 ∨ k ≠ 21) ∧ (id ≠ 147 ∨ k ≠ 22) ∧ (id ≠ 147 ∨ k ≠ 23) ∧ (id ≠ 147 ∨ k ≠ 8) ∧ (id ≠ 147 ∨ k ≠ 9) ∧ id ≠ 149 ∧ id ≠ 150 ∧ id ≠ 151 ∧ id ≠ 152 ∧ id ≠ 153 ∧ id ≠ 154 ∧ id ≠ 155 ∧ id ≠ 157 ∧ id ≠ 158 ∧ id ≠ 159 ∧ id ≠ 160) → (M') id k = M id k) ?_ ?_
      · intro hf hfr
        refine mt_b2I hf (fun r31 M32 hg30 hf => ?_)
        have hfr : ∀ id k : Nat, ((id ≠ 147 ∨ k ≠ 10) ∧ (id ≠ 147 ∨ k ≠ 11) ∧ (id ≠ 147 ∨ k ≠ 16) ∧ (id ≠ 147 ∨ k ≠ 17) ∧ (id ≠ 147 ∨ k ≠ 18) ∧ (id ≠ 147 ∨ k ≠ 21) ∧ (id ≠ 147 ∨ k ≠ 22) ∧ (id ≠ 147 ∨ k ≠ 23) ∧ (id ≠ 147 ∨ k ≠ 8) ∧ (id ≠ 147 ∨ k ≠ 9) ∧ id ≠ 149 ∧ id ≠ 150 ∧ id ≠ 151 ∧ id ≠ 152 ∧ id ≠ 153 ∧ id ≠ 154 ∧ id ≠ 155 ∧ id ≠ 157 ∧ id ≠ 158 ∧ id ≠ 159 ∧ id ≠ 160) → M32 id k = M id k := fun id k hid => (fr_X12_statement M4 hg30 id k (by omega)).trans (hfr id k hid)
        refine mt_jn1 hf (fun (v33 : Int32) => (∀ id k : Nat, ((id ≠ 147 ∨ k ≠ 10) ∧ (id ≠ 147 ∨ k ≠ 11) ∧ (id ≠ 147 ∨ k ≠ 16) ∧ (id ≠ 147 ∨ k ≠ 17) ∧ (id ≠ 147 ∨ k ≠ 18) ∧ (id ≠ 147 ∨ k ≠ 21) ∧ (id ≠ 147 ∨ k ≠ 22) ∧ (id ≠ 147 ∨ k ≠ 23) ∧ (id ≠ 147 ∨ k ≠ 8) ∧ (id ≠ 147 ∨ k ≠ 9) ∧ id ≠ 149 ∧ id ≠ 150 ∧ id ≠ 151 ∧ id ≠ 152 ∧ id ≠ 153 ∧ id ≠ 154 ∧ id ≠ 155 ∧ id ≠ 157 ∧ id ≠ 158 ∧ id ≠ 159 ∧ id ≠ 160) → M32 id k = M id k) → ∀ id k : Nat, ((id ≠ 147 ∨ k ≠ 10) ∧ (id ≠ 147 ∨ k ≠ 11) ∧ (id ≠ 147 ∨ k ≠ 16) ∧ (id ≠ 147 ∨ k ≠ 17) ∧ (id ≠ 147 ∨ k ≠ 18) ∧ (id ≠ 147 ∨ k ≠ 21) ∧ (id ≠ 147 ∨ k ≠ 22) ∧ (id ≠ 147 ∨ k ≠ 23) ∧ (id ≠ 147 ∨ k ≠ 8) ∧ (id ≠ 147 ∨ k ≠ 9) ∧ id ≠ 149 ∧ id ≠ 150 ∧ id ≠ 151 ∧ id ≠ 152 ∧ id ≠ 153 ∧ id ≠ 154 ∧ id ≠ 155 ∧ id ≠ 157 ∧ id ≠ 158 ∧ id ≠ 159 ∧ id ≠ 160) → (M') id k = M id k) ?_ ?_
        · intro v33 hf hfr
          refine mt_ltI hf (fun M36 eM36 hf => ?_)
          have hfr : ∀ id k : Nat, ((id ≠ 147 ∨ k ≠ 10) ∧ (id ≠ 147 ∨ k ≠ 11) ∧ (id ≠ 147 ∨ k ≠ 16) ∧ (id ≠ 147 ∨ k ≠ 17) ∧ (id ≠ 147 ∨ k ≠ 18) ∧ (id ≠ 147 ∨ k ≠ 21) ∧ (id ≠ 147 ∨ k ≠ 22) ∧ (id ≠ 147 ∨ k ≠ 23) ∧ (id ≠ 147 ∨ k ≠ 8) ∧ (id ≠ 147 ∨ k ≠ 9) ∧ id ≠ 149 ∧ id ≠ 150 ∧ id ≠ 151 ∧ id ≠ 152 ∧ id ≠ 153 ∧ id ≠ 154 ∧ id ≠ 155 ∧ id ≠ 157 ∧ id ≠ 158 ∧ id ≠ 159 ∧ id ≠ 160) → M36 id k = M id k := fun id k hid => (by rw [eM36]; exact mt_wr_ne2 (by omega) : M36 id k = M32 id k).trans (hfr id k hid)
          exact ih6 r31 M36 hf hfr
        · intro j34 hj35 hf
          by_cases c37 : r31 = 0
          · have hf := mt_ifT c37 hf
            exact hj35 (0 : Int32) hf hfr
          · have hf := mt_ifF c37 hf
            exact hj35 (1 : Int32) hf hfr
      · intro j28 hj29 hf
        by_cases c38 : (M4 147 17) < (M4 147 16)
        · have hf := mt_ifT c38 hf
          exact hj29 hf hfr
        · have hf := mt_ifF c38 hf
          by_cases c39 : (M4 147 18) = 0
          · have hf := mt_ifT c39 hf
            exact hj29 hf hfr
          · have hf := mt_ifF c39 hf
            exact hj8 hf hfr
set_option maxHeartbeats 4000000 in
set_option maxRecDepth 100000 in
theorem fr_X12_thinks (M : mt_M) {M' : mt_M} (hf : f_X12_thinks M = some (M')) : ∀ id k : Nat, ((id ≠ 147 ∨ k ≠ 10) ∧ (id ≠ 147 ∨ k ≠ 11) ∧ (id ≠ 147 ∨ k ≠ 21) ∧ (id ≠ 147 ∨ k ≠ 22) ∧ (id ≠ 147 ∨ k ≠ 8) ∧ (id ≠ 147 ∨ k ≠ 9) ∧ id ≠ 149 ∧ id ≠ 150 ∧ id ≠ 151 ∧ id ≠ 152 ∧ id ≠ 153 ∧ id ≠ 154 ∧ id ≠ 155 ∧ id ≠ 160) → (M') id k = M id k := by
  unfold f_X12_thinks at hf
  have hfr : ∀ id k : Nat, ((id ≠ 147 ∨ k ≠ 10) ∧ (id ≠ 147 ∨ k ≠ 11) ∧ (id ≠ 147 ∨ k ≠ 21) ∧ (id ≠ 147 ∨ k ≠ 22) ∧ (id ≠ 147 ∨ k ≠ 8) ∧ (id ≠ 147 ∨ k ≠ 9) ∧ id ≠ 149 ∧ id ≠ 150 ∧ id ≠ 151 ∧ id ≠ 152 ∧ id ≠ 153 ∧ id ≠ 154 ∧ id ≠ 155 ∧ id ≠ 160) → M id k = M id k := fun _ _ _ => rfl
  refine mt_b1I hf (fun M2 hg1 hf => ?_)
  have hfr : ∀ id k : Nat, ((id ≠ 147 ∨ k ≠ 10) ∧ (id ≠ 147 ∨ k ≠ 11) ∧ (id ≠ 147 ∨ k ≠ 21) ∧ (id ≠ 147 ∨ k ≠ 22) ∧ (id ≠ 147 ∨ k ≠ 8) ∧ (id ≠ 147 ∨ k ≠ 9) ∧ id ≠ 149 ∧ id ≠ 150 ∧ id ≠ 151 ∧ id ≠ 152 ∧ id ≠ 153 ∧ id ≠ 154 ∧ id ≠ 155 ∧ id ≠ 160) → M2 id k = M id k := fun id k hid => (fr_X12_passesAll (2 : Int32) (1 : Int32) M hg1 id k (by omega)).trans (hfr id k hid)
  have i1 := mt_so1 hf
  subst i1
  exact hfr
set_option maxHeartbeats 4000000 in
set_option maxRecDepth 100000 in
theorem fr_X12_forgets (M : mt_M) {M' : mt_M} (hf : f_X12_forgets M = some (M')) : ∀ id k : Nat, ((id ≠ 147 ∨ k ≠ 10) ∧ (id ≠ 147 ∨ k ≠ 11) ∧ (id ≠ 147 ∨ k ≠ 21) ∧ (id ≠ 147 ∨ k ≠ 22) ∧ (id ≠ 147 ∨ k ≠ 8) ∧ (id ≠ 147 ∨ k ≠ 9) ∧ id ≠ 149 ∧ id ≠ 150 ∧ id ≠ 151 ∧ id ≠ 152 ∧ id ≠ 153 ∧ id ≠ 154 ∧ id ≠ 155 ∧ id ≠ 160) → (M') id k = M id k := by
  unfold f_X12_forgets at hf
  have hfr : ∀ id k : Nat, ((id ≠ 147 ∨ k ≠ 10) ∧ (id ≠ 147 ∨ k ≠ 11) ∧ (id ≠ 147 ∨ k ≠ 21) ∧ (id ≠ 147 ∨ k ≠ 22) ∧ (id ≠ 147 ∨ k ≠ 8) ∧ (id ≠ 147 ∨ k ≠ 9) ∧ id ≠ 149 ∧ id ≠ 150 ∧ id ≠ 151 ∧ id ≠ 152 ∧ id ≠ 153 ∧ id ≠ 154 ∧ id ≠ 155 ∧ id ≠ 160) → M id k = M id k := fun _ _ _ => rfl
  refine mt_b1I hf (fun M2 hg1 hf => ?_)
  have hfr : ∀ id k : Nat, ((id ≠ 147 ∨ k ≠ 10) ∧ (id ≠ 147 ∨ k ≠ 11) ∧ (id ≠ 147 ∨ k ≠ 21) ∧ (id ≠ 147 ∨ k ≠ 22) ∧ (id ≠ 147 ∨ k ≠ 8) ∧ (id ≠ 147 ∨ k ≠ 9) ∧ id ≠ 149 ∧ id ≠ 150 ∧ id ≠ 151 ∧ id ≠ 152 ∧ id ≠ 153 ∧ id ≠ 154 ∧ id ≠ 155 ∧ id ≠ 160) → M2 id k = M id k := fun id k hid => (fr_X12_passesAll (2 : Int32) (0 : Int32) M hg1 id k (by omega)).trans (hfr id k hid)
  have i1 := mt_so1 hf
  subst i1
  exact hfr
set_option maxHeartbeats 4000000 in
set_option maxRecDepth 100000 in
theorem fr_X12_keepsBack (M : mt_M) {M' : mt_M} (hf : f_X12_keepsBack M = some (M')) : ∀ id k : Nat, ((id ≠ 147 ∨ k ≠ 10) ∧ (id ≠ 147 ∨ k ≠ 11) ∧ (id ≠ 147 ∨ k ≠ 21) ∧ (id ≠ 147 ∨ k ≠ 22) ∧ (id ≠ 147 ∨ k ≠ 23) ∧ (id ≠ 147 ∨ k ≠ 8) ∧ (id ≠ 147 ∨ k ≠ 9) ∧ id ≠ 149 ∧ id ≠ 150 ∧ id ≠ 151 ∧ id ≠ 152 ∧ id ≠ 153 ∧ id ≠ 154 ∧ id ≠ 155 ∧ id ≠ 160) → (M') id k = M id k := by
  unfold f_X12_keepsBack at hf
  have hfr : ∀ id k : Nat, ((id ≠ 147 ∨ k ≠ 10) ∧ (id ≠ 147 ∨ k ≠ 11) ∧ (id ≠ 147 ∨ k ≠ 21) ∧ (id ≠ 147 ∨ k ≠ 22) ∧ (id ≠ 147 ∨ k ≠ 23) ∧ (id ≠ 147 ∨ k ≠ 8) ∧ (id ≠ 147 ∨ k ≠ 9) ∧ id ≠ 149 ∧ id ≠ 150 ∧ id ≠ 151 ∧ id ≠ 152 ∧ id ≠ 153 ∧ id ≠ 154 ∧ id ≠ 155 ∧ id ≠ 160) → M id k = M id k := fun _ _ _ => rfl
  refine mt_jn1 hf (fun (M1 : mt_M) => (∀ id k : Nat, ((id ≠ 147 ∨ k ≠ 10) ∧ (id ≠ 147 ∨ k ≠ 11) ∧ (id ≠ 147 ∨ k ≠ 21) ∧ (id ≠ 147 ∨ k ≠ 22) ∧ (id ≠ 147 ∨ k ≠ 23) ∧ (id ≠ 147 ∨ k ≠ 8) ∧ (id ≠ 147 ∨ k ≠ 9) ∧ id ≠ 149 ∧ id ≠ 150 ∧ id ≠ 151 ∧ id ≠ 152 ∧ id ≠ 153 ∧ id ≠ 154 ∧ id ≠ 155 ∧ id ≠ 160) → M1 id k = M id k) → ∀ id k : Nat, ((id ≠ 147 ∨ k ≠ 10) ∧ (id ≠ 147 ∨ k ≠ 11) ∧ (id ≠ 147 ∨ k ≠ 21) ∧ (id ≠ 147 ∨ k ≠ 22) ∧ (id ≠ 147 ∨ k ≠ 23) ∧ (id ≠ 147 ∨ k ≠ 8) ∧ (id ≠ 147 ∨ k ≠ 9) ∧ id ≠ 149 ∧ id ≠ 150 ∧ id ≠ 151 ∧ id ≠ 152 ∧ id ≠ 153 ∧ id ≠ 154 ∧ id ≠ 155 ∧ id ≠ 160) → (M') id k = M id k) ?_ ?_
  · intro M1 hf hfr
    refine mt_b1I hf (fun M5 hg4 hf => ?_)
    have hfr : ∀ id k : Nat, ((id ≠ 147 ∨ k ≠ 10) ∧ (id ≠ 147 ∨ k ≠ 11) ∧ (id ≠ 147 ∨ k ≠ 21) ∧ (id ≠ 147 ∨ k ≠ 22) ∧ (id ≠ 147 ∨ k ≠ 23) ∧ (id ≠ 147 ∨ k ≠ 8) ∧ (id ≠ 147 ∨ k ≠ 9) ∧ id ≠ 149 ∧ id ≠ 150 ∧ id ≠ 151 ∧ id ≠ 152 ∧ id ≠ 153 ∧ id ≠ 154 ∧ id ≠ 155 ∧ id ≠ 160) → M5 id k = M id k := fun id k hid => (fr_X12_passesAll ((3 : Int32) + (M1 147 23)) (1 : Int32) M1 hg4 id k (by omega)).trans (hfr id k hid)
    refine mt_ltI hf (fun M6 eM6 hf => ?_)
    have hfr : ∀ id k : Nat, ((id ≠ 147 ∨ k ≠ 10) ∧ (id ≠ 147 ∨ k ≠ 11) ∧ (id ≠ 147 ∨ k ≠ 21) ∧ (id ≠ 147 ∨ k ≠ 22) ∧ (id ≠ 147 ∨ k ≠ 23) ∧ (id ≠ 147 ∨ k ≠ 8) ∧ (id ≠ 147 ∨ k ≠ 9) ∧ id ≠ 149 ∧ id ≠ 150 ∧ id ≠ 151 ∧ id ≠ 152 ∧ id ≠ 153 ∧ id ≠ 154 ∧ id ≠ 155 ∧ id ≠ 160) → M6 id k = M id k := fun id k hid => (by rw [eM6]; exact mt_wr_ne2 (by omega) : M6 id k = M5 id k).trans (hfr id k hid)
    have i1 := mt_so1 hf
    subst i1
    exact hfr
  · intro j2 hj3 hf
    by_cases c7 : (M 147 23) = (8 : Int32)
    · have hf := mt_ifT c7 hf
      refine mt_lpI2 hf (fun (x8 : Int32) (M9 : mt_M) => (∀ id k : Nat, ((id ≠ 147 ∨ k ≠ 10) ∧ (id ≠ 147 ∨ k ≠ 11) ∧ (id ≠ 147 ∨ k ≠ 21) ∧ (id ≠ 147 ∨ k ≠ 22) ∧ (id ≠ 147 ∨ k ≠ 23) ∧ (id ≠ 147 ∨ k ≠ 8) ∧ (id ≠ 147 ∨ k ≠ 9) ∧ id ≠ 149 ∧ id ≠ 150 ∧ id ≠ 151 ∧ id ≠ 152 ∧ id ≠ 153 ∧ id ≠ 154 ∧ id ≠ 155 ∧ id ≠ 160) → M9 id k = M id k) → ∀ id k : Nat, ((id ≠ 147 ∨ k ≠ 10) ∧ (id ≠ 147 ∨ k ≠ 11) ∧ (id ≠ 147 ∨ k ≠ 21) ∧ (id ≠ 147 ∨ k ≠ 22) ∧ (id ≠ 147 ∨ k ≠ 23) ∧ (id ≠ 147 ∨ k ≠ 8) ∧ (id ≠ 147 ∨ k ≠ 9) ∧ id ≠ 149 ∧ id ≠ 150 ∧ id ≠ 151 ∧ id ≠ 152 ∧ id ≠ 153 ∧ id ≠ 154 ∧ id ≠ 155 ∧ id ≠ 160) → (M') id k = M id k) ?_ hfr
      intro k10 ih11 x8 M9 hf hfr
      by_cases c12 : (650 : Int32) ≤ x8
      · have hf := mt_ifT c12 hf
        refine mt_ltI hf (fun M13 eM13 hf => ?_)
        have hfr : ∀ id k : Nat, ((id ≠ 147 ∨ k ≠ 10) ∧ (id ≠ 147 ∨ k ≠ 11) ∧ (id ≠ 147 ∨ k ≠ 21) ∧ (id ≠ 147 ∨ k ≠ 22) ∧ (id ≠ 147 ∨ k ≠ 23) ∧ (id ≠ 147 ∨ k ≠ 8) ∧ (id ≠ 147 ∨ k ≠ 9) ∧ id ≠ 149 ∧ id ≠ 150 ∧ id ≠ 151 ∧ id ≠ 152 ∧ id ≠ 153 ∧ id ≠ 154 ∧ id ≠ 155 ∧ id ≠ 160) → M13 id k = M id k := fun id k hid => (by rw [eM13]; exact mt_wr_ne2 (by omega) : M13 id k = M9 id k).trans (hfr id k hid)
        exact hj3 M13 hf hfr
      · have hf := mt_ifF c12 hf
        refine mt_ciI hf (fun _ hf => ?_)
        refine mt_ciI hf (fun _ hf => ?_)
        refine mt_ltI hf (fun M15 eM15 hf => ?_)
        have hfr : ∀ id k : Nat, ((id ≠ 147 ∨ k ≠ 10) ∧ (id ≠ 147 ∨ k ≠ 11) ∧ (id ≠ 147 ∨ k ≠ 21) ∧ (id ≠ 147 ∨ k ≠ 22) ∧ (id ≠ 147 ∨ k ≠ 23) ∧ (id ≠ 147 ∨ k ≠ 8) ∧ (id ≠ 147 ∨ k ≠ 9) ∧ id ≠ 149 ∧ id ≠ 150 ∧ id ≠ 151 ∧ id ≠ 152 ∧ id ≠ 153 ∧ id ≠ 154 ∧ id ≠ 155 ∧ id ≠ 160) → M15 id k = M id k := fun id k hid => (by rw [eM15]; exact mt_wr_ne2 (by omega) : M15 id k = M9 id k).trans (hfr id k hid)
        refine mt_ltI hf (fun x17 _ hf => ?_)
        exact ih11 x17 M15 hf hfr
    · have hf := mt_ifF c7 hf
      exact hj3 M hf hfr
set_option maxHeartbeats 4000000 in
set_option maxRecDepth 100000 in
theorem fr_X12_back (M : mt_M) {r : Int32} {M' : mt_M} (hf : f_X12_back M = some (r, M')) : ∀ id k : Nat, ((id ≠ 147 ∨ k ≠ 10) ∧ (id ≠ 147 ∨ k ≠ 11) ∧ (id ≠ 147 ∨ k ≠ 21) ∧ (id ≠ 147 ∨ k ≠ 22) ∧ (id ≠ 147 ∨ k ≠ 23) ∧ (id ≠ 147 ∨ k ≠ 8) ∧ (id ≠ 147 ∨ k ≠ 9) ∧ id ≠ 148 ∧ id ≠ 149 ∧ id ≠ 150 ∧ id ≠ 151 ∧ id ≠ 152 ∧ id ≠ 153 ∧ id ≠ 154 ∧ id ≠ 155 ∧ id ≠ 160) → (M') id k = M id k := by
  unfold f_X12_back at hf
  have hfr : ∀ id k : Nat, ((id ≠ 147 ∨ k ≠ 10) ∧ (id ≠ 147 ∨ k ≠ 11) ∧ (id ≠ 147 ∨ k ≠ 21) ∧ (id ≠ 147 ∨ k ≠ 22) ∧ (id ≠ 147 ∨ k ≠ 23) ∧ (id ≠ 147 ∨ k ≠ 8) ∧ (id ≠ 147 ∨ k ≠ 9) ∧ id ≠ 148 ∧ id ≠ 149 ∧ id ≠ 150 ∧ id ≠ 151 ∧ id ≠ 152 ∧ id ≠ 153 ∧ id ≠ 154 ∧ id ≠ 155 ∧ id ≠ 160) → M id k = M id k := fun _ _ _ => rfl
  by_cases c1 : (M 147 23) = 0
  · have hf := mt_ifT c1 hf
    refine mt_b2I hf (fun r6 M7 hg5 hf => ?_)
    have hfr : ∀ id k : Nat, ((id ≠ 147 ∨ k ≠ 10) ∧ (id ≠ 147 ∨ k ≠ 11) ∧ (id ≠ 147 ∨ k ≠ 21) ∧ (id ≠ 147 ∨ k ≠ 22) ∧ (id ≠ 147 ∨ k ≠ 23) ∧ (id ≠ 147 ∨ k ≠ 8) ∧ (id ≠ 147 ∨ k ≠ 9) ∧ id ≠ 148 ∧ id ≠ 149 ∧ id ≠ 150 ∧ id ≠ 151 ∧ id ≠ 152 ∧ id ≠ 153 ∧ id ≠ 154 ∧ id ≠ 155 ∧ id ≠ 160) → M7 id k = M id k := fun id k hid => (fr_X12_no (-3 : Int32) M hg5 id k (by omega)).trans (hfr id k hid)
    obtain ⟨i1, i2⟩ := mt_so2 hf
    subst i1
    subst i2
    exact hfr
  · have hf := mt_ifF c1 hf
    refine mt_ltI hf (fun M2 eM2 hf => ?_)
    have hfr : ∀ id k : Nat, ((id ≠ 147 ∨ k ≠ 10) ∧ (id ≠ 147 ∨ k ≠ 11) ∧ (id ≠ 147 ∨ k ≠ 21) ∧ (id ≠ 147 ∨ k ≠ 22) ∧ (id ≠ 147 ∨ k ≠ 23) ∧ (id ≠ 147 ∨ k ≠ 8) ∧ (id ≠ 147 ∨ k ≠ 9) ∧ id ≠ 148 ∧ id ≠ 149 ∧ id ≠ 150 ∧ id ≠ 151 ∧ id ≠ 152 ∧ id ≠ 153 ∧ id ≠ 154 ∧ id ≠ 155 ∧ id ≠ 160) → M2 id k = M id k := fun id k hid => (by rw [eM2]; exact mt_wr_ne2 (by omega) : M2 id k = M id k).trans (hfr id k hid)
    refine mt_b1I hf (fun M4 hg3 hf => ?_)
    have hfr : ∀ id k : Nat, ((id ≠ 147 ∨ k ≠ 10) ∧ (id ≠ 147 ∨ k ≠ 11) ∧ (id ≠ 147 ∨ k ≠ 21) ∧ (id ≠ 147 ∨ k ≠ 22) ∧ (id ≠ 147 ∨ k ≠ 23) ∧ (id ≠ 147 ∨ k ≠ 8) ∧ (id ≠ 147 ∨ k ≠ 9) ∧ id ≠ 148 ∧ id ≠ 149 ∧ id ≠ 150 ∧ id ≠ 151 ∧ id ≠ 152 ∧ id ≠ 153 ∧ id ≠ 154 ∧ id ≠ 155 ∧ id ≠ 160) → M4 id k = M id k := fun id k hid => (fr_X12_passesAll ((3 : Int32) + (M2 147 23)) (0 : Int32) M2 hg3 id k (by omega)).trans (hfr id k hid)
    obtain ⟨i1, i2⟩ := mt_so2 hf
    subst i1
    subst i2
    exact hfr
set_option maxHeartbeats 4000000 in
set_option maxRecDepth 100000 in
theorem fr_X12_image (M : mt_M) {r : Int32} {M' : mt_M} (hf : f_X12_image M = some (r, M')) : ∀ id k : Nat, ((id ≠ 147 ∨ k ≠ 10) ∧ (id ≠ 147 ∨ k ≠ 11) ∧ (id ≠ 147 ∨ k ≠ 20) ∧ (id ≠ 147 ∨ k ≠ 21) ∧ (id ≠ 147 ∨ k ≠ 22) ∧ (id ≠ 147 ∨ k ≠ 8) ∧ (id ≠ 147 ∨ k ≠ 9) ∧ id ≠ 149 ∧ id ≠ 150 ∧ id ≠ 151 ∧ id ≠ 152 ∧ id ≠ 153 ∧ id ≠ 154 ∧ id ≠ 155 ∧ id ≠ 160) → (M') id k = M id k := by
  unfold f_X12_image at hf
  have hfr : ∀ id k : Nat, ((id ≠ 147 ∨ k ≠ 10) ∧ (id ≠ 147 ∨ k ≠ 11) ∧ (id ≠ 147 ∨ k ≠ 20) ∧ (id ≠ 147 ∨ k ≠ 21) ∧ (id ≠ 147 ∨ k ≠ 22) ∧ (id ≠ 147 ∨ k ≠ 8) ∧ (id ≠ 147 ∨ k ≠ 9) ∧ id ≠ 149 ∧ id ≠ 150 ∧ id ≠ 151 ∧ id ≠ 152 ∧ id ≠ 153 ∧ id ≠ 154 ∧ id ≠ 155 ∧ id ≠ 160) → M id k = M id k := fun _ _ _ => rfl
  refine mt_ltI hf (fun M1 eM1 hf => ?_)
  have hfr : ∀ id k : Nat, ((id ≠ 147 ∨ k ≠ 10) ∧ (id ≠ 147 ∨ k ≠ 11) ∧ (id ≠ 147 ∨ k ≠ 20) ∧ (id ≠ 147 ∨ k ≠ 21) ∧ (id ≠ 147 ∨ k ≠ 22) ∧ (id ≠ 147 ∨ k ≠ 8) ∧ (id ≠ 147 ∨ k ≠ 9) ∧ id ≠ 149 ∧ id ≠ 150 ∧ id ≠ 151 ∧ id ≠ 152 ∧ id ≠ 153 ∧ id ≠ 154 ∧ id ≠ 155 ∧ id ≠ 160) → M1 id k = M id k := fun id k hid => (by rw [eM1]; exact mt_wr_ne2 (by omega) : M1 id k = M id k).trans (hfr id k hid)
  refine mt_b1I hf (fun M3 hg2 hf => ?_)
  have hfr : ∀ id k : Nat, ((id ≠ 147 ∨ k ≠ 10) ∧ (id ≠ 147 ∨ k ≠ 11) ∧ (id ≠ 147 ∨ k ≠ 20) ∧ (id ≠ 147 ∨ k ≠ 21) ∧ (id ≠ 147 ∨ k ≠ 22) ∧ (id ≠ 147 ∨ k ≠ 8) ∧ (id ≠ 147 ∨ k ≠ 9) ∧ id ≠ 149 ∧ id ≠ 150 ∧ id ≠ 151 ∧ id ≠ 152 ∧ id ≠ 153 ∧ id ≠ 154 ∧ id ≠ 155 ∧ id ≠ 160) → M3 id k = M id k := fun id k hid => (fr_X12_passesAll (0 : Int32) (1 : Int32) M1 hg2 id k (by omega)).trans (hfr id k hid)
  obtain ⟨i1, i2⟩ := mt_so2 hf
  subst i1
  subst i2
  exact hfr
set_option maxHeartbeats 4000000 in
set_option maxRecDepth 100000 in
theorem fr_X12_restore (M : mt_M) {r : Int32} {M' : mt_M} (hf : f_X12_restore M = some (r, M')) : ∀ id k : Nat, ((id ≠ 147 ∨ k ≠ 10) ∧ (id ≠ 147 ∨ k ≠ 11) ∧ (id ≠ 147 ∨ k ≠ 21) ∧ (id ≠ 147 ∨ k ≠ 22) ∧ (id ≠ 147 ∨ k ≠ 23) ∧ (id ≠ 147 ∨ k ≠ 8) ∧ (id ≠ 147 ∨ k ≠ 9) ∧ id ≠ 148 ∧ id ≠ 149 ∧ id ≠ 150 ∧ id ≠ 151 ∧ id ≠ 152 ∧ id ≠ 153 ∧ id ≠ 154 ∧ id ≠ 155 ∧ id ≠ 160) → (M') id k = M id k := by
  unfold f_X12_restore at hf
  have hfr : ∀ id k : Nat, ((id ≠ 147 ∨ k ≠ 10) ∧ (id ≠ 147 ∨ k ≠ 11) ∧ (id ≠ 147 ∨ k ≠ 21) ∧ (id ≠ 147 ∨ k ≠ 22) ∧ (id ≠ 147 ∨ k ≠ 23) ∧ (id ≠ 147 ∨ k ≠ 8) ∧ (id ≠ 147 ∨ k ≠ 9) ∧ id ≠ 148 ∧ id ≠ 149 ∧ id ≠ 150 ∧ id ≠ 151 ∧ id ≠ 152 ∧ id ≠ 153 ∧ id ≠ 154 ∧ id ≠ 155 ∧ id ≠ 160) → M id k = M id k := fun _ _ _ => rfl
  by_cases c1 : (M 147 20) = 0
  · have hf := mt_ifT c1 hf
    refine mt_b2I hf (fun r6 M7 hg5 hf => ?_)
    have hfr : ∀ id k : Nat, ((id ≠ 147 ∨ k ≠ 10) ∧ (id ≠ 147 ∨ k ≠ 11) ∧ (id ≠ 147 ∨ k ≠ 21) ∧ (id ≠ 147 ∨ k ≠ 22) ∧ (id ≠ 147 ∨ k ≠ 23) ∧ (id ≠ 147 ∨ k ≠ 8) ∧ (id ≠ 147 ∨ k ≠ 9) ∧ id ≠ 148 ∧ id ≠ 149 ∧ id ≠ 150 ∧ id ≠ 151 ∧ id ≠ 152 ∧ id ≠ 153 ∧ id ≠ 154 ∧ id ≠ 155 ∧ id ≠ 160) → M7 id k = M id k := fun id k hid => (fr_X12_no (-3 : Int32) M hg5 id k (by omega)).trans (hfr id k hid)
    obtain ⟨i1, i2⟩ := mt_so2 hf
    subst i1
    subst i2
    exact hfr
  · have hf := mt_ifF c1 hf
    refine mt_b1I hf (fun M3 hg2 hf => ?_)
    have hfr : ∀ id k : Nat, ((id ≠ 147 ∨ k ≠ 10) ∧ (id ≠ 147 ∨ k ≠ 11) ∧ (id ≠ 147 ∨ k ≠ 21) ∧ (id ≠ 147 ∨ k ≠ 22) ∧ (id ≠ 147 ∨ k ≠ 23) ∧ (id ≠ 147 ∨ k ≠ 8) ∧ (id ≠ 147 ∨ k ≠ 9) ∧ id ≠ 148 ∧ id ≠ 149 ∧ id ≠ 150 ∧ id ≠ 151 ∧ id ≠ 152 ∧ id ≠ 153 ∧ id ≠ 154 ∧ id ≠ 155 ∧ id ≠ 160) → M3 id k = M id k := fun id k hid => (fr_X12_passesAll (0 : Int32) (0 : Int32) M hg2 id k (by omega)).trans (hfr id k hid)
    refine mt_ltI hf (fun M4 eM4 hf => ?_)
    have hfr : ∀ id k : Nat, ((id ≠ 147 ∨ k ≠ 10) ∧ (id ≠ 147 ∨ k ≠ 11) ∧ (id ≠ 147 ∨ k ≠ 21) ∧ (id ≠ 147 ∨ k ≠ 22) ∧ (id ≠ 147 ∨ k ≠ 23) ∧ (id ≠ 147 ∨ k ≠ 8) ∧ (id ≠ 147 ∨ k ≠ 9) ∧ id ≠ 148 ∧ id ≠ 149 ∧ id ≠ 150 ∧ id ≠ 151 ∧ id ≠ 152 ∧ id ≠ 153 ∧ id ≠ 154 ∧ id ≠ 155 ∧ id ≠ 160) → M4 id k = M id k := fun id k hid => (by rw [eM4]; exact mt_wr_ne2 (by omega) : M4 id k = M3 id k).trans (hfr id k hid)
    obtain ⟨i1, i2⟩ := mt_so2 hf
    subst i1
    subst i2
    exact hfr
set_option maxHeartbeats 4000000 in
set_option maxRecDepth 100000 in
theorem fr_X12_thingOf (a1 : Int32) (a2 : Int32) (M : mt_M) {r : Int32} {M' : mt_M} (hf : f_X12_thingOf a1 a2 M = some (r, M')) : ∀ id k : Nat, (id ≠ 148) → (M') id k = M id k := by
  unfold f_X12_thingOf at hf
  have hfr : ∀ id k : Nat, (id ≠ 148) → M id k = M id k := fun _ _ _ => rfl
  refine mt_b1I hf (fun r2 hg1 hf => ?_)
  by_cases c3 : r2 = 0
  · have hf := mt_ifT c3 hf
    refine mt_b2I hf (fun r31 M32 hg30 hf => ?_)
    have hfr : ∀ id k : Nat, (id ≠ 148) → M32 id k = M id k := fun id k hid => (fr_X12_no (-1 : Int32) M hg30 id k (by omega)).trans (hfr id k hid)
    obtain ⟨i1, i2⟩ := mt_so2 hf
    subst i1
    subst i2
    exact hfr
  · have hf := mt_ifF c3 hf
    by_cases c4 : a2 = (0 : Int32)
    · have hf := mt_ifT c4 hf
      refine mt_ciI hf (fun _ hf => ?_)
      obtain ⟨i1, i2⟩ := mt_so2 hf
      subst i1
      subst i2
      exact hfr
    · have hf := mt_ifF c4 hf
      by_cases c6 : a2 = (1 : Int32)
      · have hf := mt_ifT c6 hf
        refine mt_ciI hf (fun _ hf => ?_)
        obtain ⟨i1, i2⟩ := mt_so2 hf
        subst i1
        subst i2
        exact hfr
      · have hf := mt_ifF c6 hf
        by_cases c8 : a2 = (2 : Int32)
        · have hf := mt_ifT c8 hf
          refine mt_ciI hf (fun _ hf => ?_)
          obtain ⟨i1, i2⟩ := mt_so2 hf
          subst i1
          subst i2
          exact hfr
        · have hf := mt_ifF c8 hf
          by_cases c10 : a2 = (3 : Int32)
          · have hf := mt_ifT c10 hf
            refine mt_ciI hf (fun _ hf => ?_)
            obtain ⟨i1, i2⟩ := mt_so2 hf
            subst i1
            subst i2
            exact hfr
          · have hf := mt_ifF c10 hf
            by_cases c12 : a2 = (4 : Int32)
            · have hf := mt_ifT c12 hf
              refine mt_b1I hf (fun r14 hg13 hf => ?_)
              obtain ⟨i1, i2⟩ := mt_so2 hf
              subst i1
              subst i2
              exact hfr
            · have hf := mt_ifF c12 hf
              by_cases c15 : a2 = (5 : Int32)
              · have hf := mt_ifT c15 hf
                refine mt_b1I hf (fun r17 hg16 hf => ?_)
                obtain ⟨i1, i2⟩ := mt_so2 hf
                subst i1
                subst i2
                exact hfr
              · have hf := mt_ifF c15 hf
                by_cases c18 : a2 = (6 : Int32)
                · have hf := mt_ifT c18 hf
                  refine mt_b1I hf (fun r20 hg19 hf => ?_)
                  obtain ⟨i1, i2⟩ := mt_so2 hf
                  subst i1
                  subst i2
                  exact hfr
                · have hf := mt_ifF c18 hf
                  by_cases c21 : a2 = (7 : Int32)
                  · have hf := mt_ifT c21 hf
                    refine mt_b1I hf (fun r23 hg22 hf => ?_)
                    obtain ⟨i1, i2⟩ := mt_so2 hf
                    subst i1
                    subst i2
                    exact hfr
                  · have hf := mt_ifF c21 hf
                    by_cases c24 : a2 = (8 : Int32)
                    · have hf := mt_ifT c24 hf
                      refine mt_b1I hf (fun r26 hg25 hf => ?_)
                      obtain ⟨i1, i2⟩ := mt_so2 hf
                      subst i1
                      subst i2
                      exact hfr
                    · have hf := mt_ifF c24 hf
                      refine mt_b2I hf (fun r28 M29 hg27 hf => ?_)
                      have hfr : ∀ id k : Nat, (id ≠ 148) → M29 id k = M id k := fun id k hid => (fr_X12_no (-2 : Int32) M hg27 id k (by omega)).trans (hfr id k hid)
                      obtain ⟨i1, i2⟩ := mt_so2 hf
                      subst i1
                      subst i2
                      exact hfr
set_option maxHeartbeats 4000000 in
set_option maxRecDepth 100000 in
theorem fr_X12_thing (a1 : Int32) (a2 : Int32) (a3 : Int32) (M : mt_M) {r : Int32} {M' : mt_M} (hf : f_X12_thing a1 a2 a3 M = some (r, M')) : ∀ id k : Nat, ((id ≠ 147 ∨ k ≠ 23) ∧ (id ≠ 147 ∨ k ≠ 8) ∧ id ≠ 148 ∧ id ≠ 149 ∧ id ≠ 150 ∧ id ≠ 151 ∧ id ≠ 152 ∧ id ≠ 153 ∧ id ≠ 154) → (M') id k = M id k := by
  unfold f_X12_thing at hf
  have hfr : ∀ id k : Nat, ((id ≠ 147 ∨ k ≠ 23) ∧ (id ≠ 147 ∨ k ≠ 8) ∧ id ≠ 148 ∧ id ≠ 149 ∧ id ≠ 150 ∧ id ≠ 151 ∧ id ≠ 152 ∧ id ≠ 153 ∧ id ≠ 154) → M id k = M id k := fun _ _ _ => rfl
  refine mt_b1I hf (fun r2 hg1 hf => ?_)
  refine mt_jn1 hf (fun (v3 : Int32) => (∀ id k : Nat, ((id ≠ 147 ∨ k ≠ 23) ∧ (id ≠ 147 ∨ k ≠ 8) ∧ id ≠ 148 ∧ id ≠ 149 ∧ id ≠ 150 ∧ id ≠ 151 ∧ id ≠ 152 ∧ id ≠ 153 ∧ id ≠ 154) → M id k = M id k) → ∀ id k : Nat, ((id ≠ 147 ∨ k ≠ 23) ∧ (id ≠ 147 ∨ k ≠ 8) ∧ id ≠ 148 ∧ id ≠ 149 ∧ id ≠ 150 ∧ id ≠ 151 ∧ id ≠ 152 ∧ id ≠ 153 ∧ id ≠ 154) → (M') id k = M id k) ?_ ?_
  · intro v3 hf hfr
    by_cases c6 : v3 = 0
    · have hf := mt_ifT c6 hf
      refine mt_ltI hf (fun M7 eM7 hf => ?_)
      have hfr : ∀ id k : Nat, ((id ≠ 147 ∨ k ≠ 23) ∧ (id ≠ 147 ∨ k ≠ 8) ∧ id ≠ 148 ∧ id ≠ 149 ∧ id ≠ 150 ∧ id ≠ 151 ∧ id ≠ 152 ∧ id ≠ 153 ∧ id ≠ 154) → M7 id k = M id k := fun id k hid => (by rw [eM7]; exact mt_wr_ne2 (by omega) : M7 id k = M id k).trans (hfr id k hid)
      refine mt_b1I hf (fun M9 hg8 hf => ?_)
      have hfr : ∀ id k : Nat, ((id ≠ 147 ∨ k ≠ 23) ∧ (id ≠ 147 ∨ k ≠ 8) ∧ id ≠ 148 ∧ id ≠ 149 ∧ id ≠ 150 ∧ id ≠ 151 ∧ id ≠ 152 ∧ id ≠ 153 ∧ id ≠ 154) → M9 id k = M id k := fun id k hid => (fr_X12_adds a1 a2 a3 M7 hg8 id k (by omega)).trans (hfr id k hid)
      obtain ⟨i1, i2⟩ := mt_so2 hf
      subst i1
      subst i2
      exact hfr
    · have hf := mt_ifF c6 hf
      refine mt_b2I hf (fun r11 M12 hg10 hf => ?_)
      have hfr : ∀ id k : Nat, ((id ≠ 147 ∨ k ≠ 23) ∧ (id ≠ 147 ∨ k ≠ 8) ∧ id ≠ 148 ∧ id ≠ 149 ∧ id ≠ 150 ∧ id ≠ 151 ∧ id ≠ 152 ∧ id ≠ 153 ∧ id ≠ 154) → M12 id k = M id k := fun id k hid => (fr_X12_no v3 M hg10 id k (by omega)).trans (hfr id k hid)
      obtain ⟨i1, i2⟩ := mt_so2 hf
      subst i1
      subst i2
      exact hfr
  · intro j4 hj5 hf
    by_cases c13 : r2 = 0
    · have hf := mt_ifT c13 hf
      exact hj5 (-2 : Int32) hf hfr
    · have hf := mt_ifF c13 hf
      refine mt_jn0 hf ((∀ id k : Nat, ((id ≠ 147 ∨ k ≠ 23) ∧ (id ≠ 147 ∨ k ≠ 8) ∧ id ≠ 148 ∧ id ≠ 149 ∧ id ≠ 150 ∧ id ≠ 151 ∧ id ≠ 152 ∧ id ≠ 153 ∧ id ≠ 154) → M id k = M id k) → ∀ id k : Nat, ((id ≠ 147 ∨ k ≠ 23) ∧ (id ≠ 147 ∨ k ≠ 8) ∧ id ≠ 148 ∧ id ≠ 149 ∧ id ≠ 150 ∧ id ≠ 151 ∧ id ≠ 152 ∧ id ≠ 153 ∧ id ≠ 154) → (M') id k = M id k) ?_ ?_
      · intro hf hfr
        exact hj5 (-4 : Int32) hf hfr
      · intro j14 hj15 hf
        by_cases c16 : a2 < 0
        · have hf := mt_ifT c16 hf
          exact hj15 hf hfr
        · have hf := mt_ifF c16 hf
          by_cases c17 : 0 ≤ a3
          · have hf := mt_ifT c17 hf
            refine mt_jn0 hf ((∀ id k : Nat, ((id ≠ 147 ∨ k ≠ 23) ∧ (id ≠ 147 ∨ k ≠ 8) ∧ id ≠ 148 ∧ id ≠ 149 ∧ id ≠ 150 ∧ id ≠ 151 ∧ id ≠ 152 ∧ id ≠ 153 ∧ id ≠ 154) → M id k = M id k) → ∀ id k : Nat, ((id ≠ 147 ∨ k ≠ 23) ∧ (id ≠ 147 ∨ k ≠ 8) ∧ id ≠ 148 ∧ id ≠ 149 ∧ id ≠ 150 ∧ id ≠ 151 ∧ id ≠ 152 ∧ id ≠ 153 ∧ id ≠ 154) → (M') id k = M id k) ?_ ?_
            · intro hf hfr
              exact hj5 (-6 : Int32) hf hfr
            · intro j18 hj19 hf
              by_cases c20 : (9 : Int32) < a2
              · have hf := mt_ifT c20 hf
                exact hj19 hf hfr
              · have hf := mt_ifF c20 hf
                by_cases c21 : (9 : Int32) < a3
                · have hf := mt_ifT c21 hf
                  exact hj19 hf hfr
                · have hf := mt_ifF c21 hf
                  by_cases c22 : (M 147 8) = (7 : Int32)
                  · have hf := mt_ifT c22 hf
                    exact hj19 hf hfr
                  · have hf := mt_ifF c22 hf
                    exact hj5 (0 : Int32) hf hfr
          · have hf := mt_ifF c17 hf
            exact hj15 hf hfr
set_option maxHeartbeats 4000000 in
set_option maxRecDepth 100000 in
theorem fr_X12_stock (a1 : Int32) (a2 : Int32) (M : mt_M) {r : Int32} {M' : mt_M} (hf : f_X12_stock a1 a2 M = some (r, M')) : ∀ id k : Nat, ((id ≠ 147 ∨ k ≠ 10) ∧ (id ≠ 147 ∨ k ≠ 11) ∧ (id ≠ 147 ∨ k ≠ 21) ∧ (id ≠ 147 ∨ k ≠ 22) ∧ (id ≠ 147 ∨ k ≠ 23) ∧ (id ≠ 147 ∨ k ≠ 8) ∧ (id ≠ 147 ∨ k ≠ 9) ∧ id ≠ 148 ∧ id ≠ 149 ∧ id ≠ 150 ∧ id ≠ 151 ∧ id ≠ 152 ∧ id ≠ 153 ∧ id ≠ 154 ∧ id ≠ 155 ∧ id ≠ 160) → (M') id k = M id k := by
  unfold f_X12_stock at hf
  have hfr : ∀ id k : Nat, ((id ≠ 147 ∨ k ≠ 10) ∧ (id ≠ 147 ∨ k ≠ 11) ∧ (id ≠ 147 ∨ k ≠ 21) ∧ (id ≠ 147 ∨ k ≠ 22) ∧ (id ≠ 147 ∨ k ≠ 23) ∧ (id ≠ 147 ∨ k ≠ 8) ∧ (id ≠ 147 ∨ k ≠ 9) ∧ id ≠ 148 ∧ id ≠ 149 ∧ id ≠ 150 ∧ id ≠ 151 ∧ id ≠ 152 ∧ id ≠ 153 ∧ id ≠ 154 ∧ id ≠ 155 ∧ id ≠ 160) → M id k = M id k := fun _ _ _ => rfl
  refine mt_b1I hf (fun r2 hg1 hf => ?_)
  refine mt_jn1 hf (fun (v3 : Int32) => (∀ id k : Nat, ((id ≠ 147 ∨ k ≠ 10) ∧ (id ≠ 147 ∨ k ≠ 11) ∧ (id ≠ 147 ∨ k ≠ 21) ∧ (id ≠ 147 ∨ k ≠ 22) ∧ (id ≠ 147 ∨ k ≠ 23) ∧ (id ≠ 147 ∨ k ≠ 8) ∧ (id ≠ 147 ∨ k ≠ 9) ∧ id ≠ 148 ∧ id ≠ 149 ∧ id ≠ 150 ∧ id ≠ 151 ∧ id ≠ 152 ∧ id ≠ 153 ∧ id ≠ 154 ∧ id ≠ 155 ∧ id ≠ 160) → M id k = M id k) → ∀ id k : Nat, ((id ≠ 147 ∨ k ≠ 10) ∧ (id ≠ 147 ∨ k ≠ 11) ∧ (id ≠ 147 ∨ k ≠ 21) ∧ (id ≠ 147 ∨ k ≠ 22) ∧ (id ≠ 147 ∨ k ≠ 23) ∧ (id ≠ 147 ∨ k ≠ 8) ∧ (id ≠ 147 ∨ k ≠ 9) ∧ id ≠ 148 ∧ id ≠ 149 ∧ id ≠ 150 ∧ id ≠ 151 ∧ id ≠ 152 ∧ id ≠ 153 ∧ id ≠ 154 ∧ id ≠ 155 ∧ id ≠ 160) → (M') id k = M id k) ?_ ?_
  · intro v3 hf hfr
    by_cases c6 : v3 = 0
    · have hf := mt_ifT c6 hf
      refine mt_b1I hf (fun M8 hg7 hf => ?_)
      have hfr : ∀ id k : Nat, ((id ≠ 147 ∨ k ≠ 10) ∧ (id ≠ 147 ∨ k ≠ 11) ∧ (id ≠ 147 ∨ k ≠ 21) ∧ (id ≠ 147 ∨ k ≠ 22) ∧ (id ≠ 147 ∨ k ≠ 23) ∧ (id ≠ 147 ∨ k ≠ 8) ∧ (id ≠ 147 ∨ k ≠ 9) ∧ id ≠ 148 ∧ id ≠ 149 ∧ id ≠ 150 ∧ id ≠ 151 ∧ id ≠ 152 ∧ id ≠ 153 ∧ id ≠ 154 ∧ id ≠ 155 ∧ id ≠ 160) → M8 id k = M id k := fun id k hid => (fr_X12_keepsBack M hg7 id k (by omega)).trans (hfr id k hid)
      refine mt_ciI hf (fun _ hf => ?_)
      refine mt_ltI hf (fun x10 _ hf => ?_)
      refine mt_ciI hf (fun _ hf => ?_)
      refine mt_ltI hf (fun M11 eM11 hf => ?_)
      have hfr : ∀ id k : Nat, ((id ≠ 147 ∨ k ≠ 10) ∧ (id ≠ 147 ∨ k ≠ 11) ∧ (id ≠ 147 ∨ k ≠ 21) ∧ (id ≠ 147 ∨ k ≠ 22) ∧ (id ≠ 147 ∨ k ≠ 23) ∧ (id ≠ 147 ∨ k ≠ 8) ∧ (id ≠ 147 ∨ k ≠ 9) ∧ id ≠ 148 ∧ id ≠ 149 ∧ id ≠ 150 ∧ id ≠ 151 ∧ id ≠ 152 ∧ id ≠ 153 ∧ id ≠ 154 ∧ id ≠ 155 ∧ id ≠ 160) → M11 id k = M id k := fun id k hid => (by rw [eM11]; exact mt_wr_ne2 (by omega) : M11 id k = M8 id k).trans (hfr id k hid)
      obtain ⟨i1, i2⟩ := mt_so2 hf
      subst i1
      subst i2
      exact hfr
    · have hf := mt_ifF c6 hf
      refine mt_b2I hf (fun r14 M15 hg13 hf => ?_)
      have hfr : ∀ id k : Nat, ((id ≠ 147 ∨ k ≠ 10) ∧ (id ≠ 147 ∨ k ≠ 11) ∧ (id ≠ 147 ∨ k ≠ 21) ∧ (id ≠ 147 ∨ k ≠ 22) ∧ (id ≠ 147 ∨ k ≠ 23) ∧ (id ≠ 147 ∨ k ≠ 8) ∧ (id ≠ 147 ∨ k ≠ 9) ∧ id ≠ 148 ∧ id ≠ 149 ∧ id ≠ 150 ∧ id ≠ 151 ∧ id ≠ 152 ∧ id ≠ 153 ∧ id ≠ 154 ∧ id ≠ 155 ∧ id ≠ 160) → M15 id k = M id k := fun id k hid => (fr_X12_no v3 M hg13 id k (by omega)).trans (hfr id k hid)
      obtain ⟨i1, i2⟩ := mt_so2 hf
      subst i1
      subst i2
      exact hfr
  · intro j4 hj5 hf
    by_cases c16 : r2 = 0
    · have hf := mt_ifT c16 hf
      exact hj5 (-1 : Int32) hf hfr
    · have hf := mt_ifF c16 hf
      refine mt_b1I hf (fun r18 hg17 hf => ?_)
      exact hj5 r18 hf hfr
set_option maxHeartbeats 4000000 in
set_option maxRecDepth 100000 in
theorem fr_X12_lineOf (a1 : Int32) (a2 : Int32) (a3 : Int32) (M : mt_M) {r : Int32} {M' : mt_M} (hf : f_X12_lineOf a1 a2 a3 M = some (r, M')) : ∀ id k : Nat, (id ≠ 148) → (M') id k = M id k := by
  unfold f_X12_lineOf at hf
  have hfr : ∀ id k : Nat, (id ≠ 148) → M id k = M id k := fun _ _ _ => rfl
  refine mt_b1I hf (fun r2 hg1 hf => ?_)
  by_cases c3 : r2 = 0
  · have hf := mt_ifT c3 hf
    refine mt_b2I hf (fun r12 M13 hg11 hf => ?_)
    have hfr : ∀ id k : Nat, (id ≠ 148) → M13 id k = M id k := fun id k hid => (fr_X12_no (-1 : Int32) M hg11 id k (by omega)).trans (hfr id k hid)
    obtain ⟨i1, i2⟩ := mt_so2 hf
    subst i1
    subst i2
    exact hfr
  · have hf := mt_ifF c3 hf
    by_cases c4 : a3 = 0
    · have hf := mt_ifT c4 hf
      refine mt_ciI hf (fun _ hf => ?_)
      obtain ⟨i1, i2⟩ := mt_so2 hf
      subst i1
      subst i2
      exact hfr
    · have hf := mt_ifF c4 hf
      by_cases c5 : a3 = (1 : Int32)
      · have hf := mt_ifT c5 hf
        refine mt_ciI hf (fun _ hf => ?_)
        obtain ⟨i1, i2⟩ := mt_so2 hf
        subst i1
        subst i2
        exact hfr
      · have hf := mt_ifF c5 hf
        refine mt_b2I hf (fun r7 M8 hg6 hf => ?_)
        have hfr : ∀ id k : Nat, (id ≠ 148) → M8 id k = M id k := fun id k hid => (fr_X12_no (-2 : Int32) M hg6 id k (by omega)).trans (hfr id k hid)
        obtain ⟨i1, i2⟩ := mt_so2 hf
        subst i1
        subst i2
        exact hfr
set_option maxHeartbeats 4000000 in
set_option maxRecDepth 100000 in
theorem fr_X12_writes (a1 : Int32) (a2 : Int32) (M : mt_M) {r : Int32} {M' : mt_M} (hf : f_X12_writes a1 a2 M = some (r, M')) : ∀ id k : Nat, ((id ≠ 147 ∨ k ≠ 10) ∧ (id ≠ 147 ∨ k ≠ 11) ∧ (id ≠ 147 ∨ k ≠ 21) ∧ (id ≠ 147 ∨ k ≠ 22) ∧ (id ≠ 147 ∨ k ≠ 23) ∧ (id ≠ 147 ∨ k ≠ 8) ∧ (id ≠ 147 ∨ k ≠ 9) ∧ id ≠ 148 ∧ id ≠ 149 ∧ id ≠ 150 ∧ id ≠ 151 ∧ id ≠ 152 ∧ id ≠ 153 ∧ id ≠ 154 ∧ id ≠ 155 ∧ id ≠ 160) → (M') id k = M id k := by
  unfold f_X12_writes at hf
  have hfr : ∀ id k : Nat, ((id ≠ 147 ∨ k ≠ 10) ∧ (id ≠ 147 ∨ k ≠ 11) ∧ (id ≠ 147 ∨ k ≠ 21) ∧ (id ≠ 147 ∨ k ≠ 22) ∧ (id ≠ 147 ∨ k ≠ 23) ∧ (id ≠ 147 ∨ k ≠ 8) ∧ (id ≠ 147 ∨ k ≠ 9) ∧ id ≠ 148 ∧ id ≠ 149 ∧ id ≠ 150 ∧ id ≠ 151 ∧ id ≠ 152 ∧ id ≠ 153 ∧ id ≠ 154 ∧ id ≠ 155 ∧ id ≠ 160) → M id k = M id k := fun _ _ _ => rfl
  refine mt_b1I hf (fun r2 hg1 hf => ?_)
  by_cases c3 : r2 = 0
  · have hf := mt_ifT c3 hf
    refine mt_b1I hf (fun M5 hg4 hf => ?_)
    have hfr : ∀ id k : Nat, ((id ≠ 147 ∨ k ≠ 10) ∧ (id ≠ 147 ∨ k ≠ 11) ∧ (id ≠ 147 ∨ k ≠ 21) ∧ (id ≠ 147 ∨ k ≠ 22) ∧ (id ≠ 147 ∨ k ≠ 23) ∧ (id ≠ 147 ∨ k ≠ 8) ∧ (id ≠ 147 ∨ k ≠ 9) ∧ id ≠ 148 ∧ id ≠ 149 ∧ id ≠ 150 ∧ id ≠ 151 ∧ id ≠ 152 ∧ id ≠ 153 ∧ id ≠ 154 ∧ id ≠ 155 ∧ id ≠ 160) → M5 id k = M id k := fun id k hid => (fr_X12_keepsBack M hg4 id k (by omega)).trans (hfr id k hid)
    refine mt_b1I hf (fun M7 hg6 hf => ?_)
    have hfr : ∀ id k : Nat, ((id ≠ 147 ∨ k ≠ 10) ∧ (id ≠ 147 ∨ k ≠ 11) ∧ (id ≠ 147 ∨ k ≠ 21) ∧ (id ≠ 147 ∨ k ≠ 22) ∧ (id ≠ 147 ∨ k ≠ 23) ∧ (id ≠ 147 ∨ k ≠ 8) ∧ (id ≠ 147 ∨ k ≠ 9) ∧ id ≠ 148 ∧ id ≠ 149 ∧ id ≠ 150 ∧ id ≠ 151 ∧ id ≠ 152 ∧ id ≠ 153 ∧ id ≠ 154 ∧ id ≠ 155 ∧ id ≠ 160) → M7 id k = M id k := fun id k hid => (fr_X12_marks a1 a2 (1 : Int32) M5 hg6 id k (by omega)).trans (hfr id k hid)
    obtain ⟨i1, i2⟩ := mt_so2 hf
    subst i1
    subst i2
    exact hfr
  · have hf := mt_ifF c3 hf
    refine mt_b2I hf (fun r9 M10 hg8 hf => ?_)
    have hfr : ∀ id k : Nat, ((id ≠ 147 ∨ k ≠ 10) ∧ (id ≠ 147 ∨ k ≠ 11) ∧ (id ≠ 147 ∨ k ≠ 21) ∧ (id ≠ 147 ∨ k ≠ 22) ∧ (id ≠ 147 ∨ k ≠ 23) ∧ (id ≠ 147 ∨ k ≠ 8) ∧ (id ≠ 147 ∨ k ≠ 9) ∧ id ≠ 148 ∧ id ≠ 149 ∧ id ≠ 150 ∧ id ≠ 151 ∧ id ≠ 152 ∧ id ≠ 153 ∧ id ≠ 154 ∧ id ≠ 155 ∧ id ≠ 160) → M10 id k = M id k := fun id k hid => (fr_X12_no r2 M hg8 id k (by omega)).trans (hfr id k hid)
    obtain ⟨i1, i2⟩ := mt_so2 hf
    subst i1
    subst i2
    exact hfr
set_option maxHeartbeats 4000000 in
set_option maxRecDepth 100000 in
theorem fr_X12_ticks (a1 : Int32) (a2 : Int32) (M : mt_M) {r : Int32} {M' : mt_M} (hf : f_X12_ticks a1 a2 M = some (r, M')) : ∀ id k : Nat, ((id ≠ 147 ∨ k ≠ 10) ∧ (id ≠ 147 ∨ k ≠ 11) ∧ (id ≠ 147 ∨ k ≠ 21) ∧ (id ≠ 147 ∨ k ≠ 22) ∧ (id ≠ 147 ∨ k ≠ 23) ∧ (id ≠ 147 ∨ k ≠ 8) ∧ (id ≠ 147 ∨ k ≠ 9) ∧ id ≠ 148 ∧ id ≠ 149 ∧ id ≠ 150 ∧ id ≠ 151 ∧ id ≠ 152 ∧ id ≠ 153 ∧ id ≠ 154 ∧ id ≠ 155 ∧ id ≠ 160) → (M') id k = M id k := by
  unfold f_X12_ticks at hf
  have hfr : ∀ id k : Nat, ((id ≠ 147 ∨ k ≠ 10) ∧ (id ≠ 147 ∨ k ≠ 11) ∧ (id ≠ 147 ∨ k ≠ 21) ∧ (id ≠ 147 ∨ k ≠ 22) ∧ (id ≠ 147 ∨ k ≠ 23) ∧ (id ≠ 147 ∨ k ≠ 8) ∧ (id ≠ 147 ∨ k ≠ 9) ∧ id ≠ 148 ∧ id ≠ 149 ∧ id ≠ 150 ∧ id ≠ 151 ∧ id ≠ 152 ∧ id ≠ 153 ∧ id ≠ 154 ∧ id ≠ 155 ∧ id ≠ 160) → M id k = M id k := fun _ _ _ => rfl
  refine mt_b1I hf (fun r2 hg1 hf => ?_)
  by_cases c3 : r2 = 0
  · have hf := mt_ifT c3 hf
    refine mt_b1I hf (fun M5 hg4 hf => ?_)
    have hfr : ∀ id k : Nat, ((id ≠ 147 ∨ k ≠ 10) ∧ (id ≠ 147 ∨ k ≠ 11) ∧ (id ≠ 147 ∨ k ≠ 21) ∧ (id ≠ 147 ∨ k ≠ 22) ∧ (id ≠ 147 ∨ k ≠ 23) ∧ (id ≠ 147 ∨ k ≠ 8) ∧ (id ≠ 147 ∨ k ≠ 9) ∧ id ≠ 148 ∧ id ≠ 149 ∧ id ≠ 150 ∧ id ≠ 151 ∧ id ≠ 152 ∧ id ≠ 153 ∧ id ≠ 154 ∧ id ≠ 155 ∧ id ≠ 160) → M5 id k = M id k := fun id k hid => (fr_X12_keepsBack M hg4 id k (by omega)).trans (hfr id k hid)
    refine mt_b1I hf (fun M7 hg6 hf => ?_)
    have hfr : ∀ id k : Nat, ((id ≠ 147 ∨ k ≠ 10) ∧ (id ≠ 147 ∨ k ≠ 11) ∧ (id ≠ 147 ∨ k ≠ 21) ∧ (id ≠ 147 ∨ k ≠ 22) ∧ (id ≠ 147 ∨ k ≠ 23) ∧ (id ≠ 147 ∨ k ≠ 8) ∧ (id ≠ 147 ∨ k ≠ 9) ∧ id ≠ 148 ∧ id ≠ 149 ∧ id ≠ 150 ∧ id ≠ 151 ∧ id ≠ 152 ∧ id ≠ 153 ∧ id ≠ 154 ∧ id ≠ 155 ∧ id ≠ 160) → M7 id k = M id k := fun id k hid => (fr_X12_buys a1 a2 M5 hg6 id k (by omega)).trans (hfr id k hid)
    obtain ⟨i1, i2⟩ := mt_so2 hf
    subst i1
    subst i2
    exact hfr
  · have hf := mt_ifF c3 hf
    refine mt_b2I hf (fun r9 M10 hg8 hf => ?_)
    have hfr : ∀ id k : Nat, ((id ≠ 147 ∨ k ≠ 10) ∧ (id ≠ 147 ∨ k ≠ 11) ∧ (id ≠ 147 ∨ k ≠ 21) ∧ (id ≠ 147 ∨ k ≠ 22) ∧ (id ≠ 147 ∨ k ≠ 23) ∧ (id ≠ 147 ∨ k ≠ 8) ∧ (id ≠ 147 ∨ k ≠ 9) ∧ id ≠ 148 ∧ id ≠ 149 ∧ id ≠ 150 ∧ id ≠ 151 ∧ id ≠ 152 ∧ id ≠ 153 ∧ id ≠ 154 ∧ id ≠ 155 ∧ id ≠ 160) → M10 id k = M id k := fun id k hid => (fr_X12_no r2 M hg8 id k (by omega)).trans (hfr id k hid)
    obtain ⟨i1, i2⟩ := mt_so2 hf
    subst i1
    subst i2
    exact hfr
set_option maxHeartbeats 4000000 in
set_option maxRecDepth 100000 in
theorem fr_X12_strikes (a1 : Int32) (a2 : Int32) (M : mt_M) {r : Int32} {M' : mt_M} (hf : f_X12_strikes a1 a2 M = some (r, M')) : ∀ id k : Nat, ((id ≠ 147 ∨ k ≠ 10) ∧ (id ≠ 147 ∨ k ≠ 11) ∧ (id ≠ 147 ∨ k ≠ 21) ∧ (id ≠ 147 ∨ k ≠ 22) ∧ (id ≠ 147 ∨ k ≠ 23) ∧ (id ≠ 147 ∨ k ≠ 8) ∧ (id ≠ 147 ∨ k ≠ 9) ∧ id ≠ 148 ∧ id ≠ 149 ∧ id ≠ 150 ∧ id ≠ 151 ∧ id ≠ 152 ∧ id ≠ 153 ∧ id ≠ 154 ∧ id ≠ 155 ∧ id ≠ 160) → (M') id k = M id k := by
  unfold f_X12_strikes at hf
  have hfr : ∀ id k : Nat, ((id ≠ 147 ∨ k ≠ 10) ∧ (id ≠ 147 ∨ k ≠ 11) ∧ (id ≠ 147 ∨ k ≠ 21) ∧ (id ≠ 147 ∨ k ≠ 22) ∧ (id ≠ 147 ∨ k ≠ 23) ∧ (id ≠ 147 ∨ k ≠ 8) ∧ (id ≠ 147 ∨ k ≠ 9) ∧ id ≠ 148 ∧ id ≠ 149 ∧ id ≠ 150 ∧ id ≠ 151 ∧ id ≠ 152 ∧ id ≠ 153 ∧ id ≠ 154 ∧ id ≠ 155 ∧ id ≠ 160) → M id k = M id k := fun _ _ _ => rfl
  refine mt_b1I hf (fun r2 hg1 hf => ?_)
  by_cases c3 : r2 = 0
  · have hf := mt_ifT c3 hf
    refine mt_b1I hf (fun M5 hg4 hf => ?_)
    have hfr : ∀ id k : Nat, ((id ≠ 147 ∨ k ≠ 10) ∧ (id ≠ 147 ∨ k ≠ 11) ∧ (id ≠ 147 ∨ k ≠ 21) ∧ (id ≠ 147 ∨ k ≠ 22) ∧ (id ≠ 147 ∨ k ≠ 23) ∧ (id ≠ 147 ∨ k ≠ 8) ∧ (id ≠ 147 ∨ k ≠ 9) ∧ id ≠ 148 ∧ id ≠ 149 ∧ id ≠ 150 ∧ id ≠ 151 ∧ id ≠ 152 ∧ id ≠ 153 ∧ id ≠ 154 ∧ id ≠ 155 ∧ id ≠ 160) → M5 id k = M id k := fun id k hid => (fr_X12_keepsBack M hg4 id k (by omega)).trans (hfr id k hid)
    refine mt_b1I hf (fun M7 hg6 hf => ?_)
    have hfr : ∀ id k : Nat, ((id ≠ 147 ∨ k ≠ 10) ∧ (id ≠ 147 ∨ k ≠ 11) ∧ (id ≠ 147 ∨ k ≠ 21) ∧ (id ≠ 147 ∨ k ≠ 22) ∧ (id ≠ 147 ∨ k ≠ 23) ∧ (id ≠ 147 ∨ k ≠ 8) ∧ (id ≠ 147 ∨ k ≠ 9) ∧ id ≠ 148 ∧ id ≠ 149 ∧ id ≠ 150 ∧ id ≠ 151 ∧ id ≠ 152 ∧ id ≠ 153 ∧ id ≠ 154 ∧ id ≠ 155 ∧ id ≠ 160) → M7 id k = M id k := fun id k hid => (fr_X12_marks a1 a2 (0 : Int32) M5 hg6 id k (by omega)).trans (hfr id k hid)
    obtain ⟨i1, i2⟩ := mt_so2 hf
    subst i1
    subst i2
    exact hfr
  · have hf := mt_ifF c3 hf
    refine mt_b2I hf (fun r9 M10 hg8 hf => ?_)
    have hfr : ∀ id k : Nat, ((id ≠ 147 ∨ k ≠ 10) ∧ (id ≠ 147 ∨ k ≠ 11) ∧ (id ≠ 147 ∨ k ≠ 21) ∧ (id ≠ 147 ∨ k ≠ 22) ∧ (id ≠ 147 ∨ k ≠ 23) ∧ (id ≠ 147 ∨ k ≠ 8) ∧ (id ≠ 147 ∨ k ≠ 9) ∧ id ≠ 148 ∧ id ≠ 149 ∧ id ≠ 150 ∧ id ≠ 151 ∧ id ≠ 152 ∧ id ≠ 153 ∧ id ≠ 154 ∧ id ≠ 155 ∧ id ≠ 160) → M10 id k = M id k := fun id k hid => (fr_X12_no r2 M hg8 id k (by omega)).trans (hfr id k hid)
    obtain ⟨i1, i2⟩ := mt_so2 hf
    subst i1
    subst i2
    exact hfr
set_option maxHeartbeats 4000000 in
set_option maxRecDepth 100000 in
theorem fr_X12_rule (a1 : Int32) (M : mt_M) {r : Int32} {M' : mt_M} (hf : f_X12_rule a1 M = some (r, M')) : ∀ id k : Nat, ((id ≠ 147 ∨ k ≠ 11) ∧ (id ≠ 147 ∨ k ≠ 23) ∧ id ≠ 148) → (M') id k = M id k := by
  unfold f_X12_rule at hf
  have hfr : ∀ id k : Nat, ((id ≠ 147 ∨ k ≠ 11) ∧ (id ≠ 147 ∨ k ≠ 23) ∧ id ≠ 148) → M id k = M id k := fun _ _ _ => rfl
  refine mt_b1I hf (fun r2 hg1 hf => ?_)
  by_cases c3 : r2 = 0
  · have hf := mt_ifT c3 hf
    refine mt_b2I hf (fun r8 M9 hg7 hf => ?_)
    have hfr : ∀ id k : Nat, ((id ≠ 147 ∨ k ≠ 11) ∧ (id ≠ 147 ∨ k ≠ 23) ∧ id ≠ 148) → M9 id k = M id k := fun id k hid => (fr_X12_no (-2 : Int32) M hg7 id k (by omega)).trans (hfr id k hid)
    obtain ⟨i1, i2⟩ := mt_so2 hf
    subst i1
    subst i2
    exact hfr
  · have hf := mt_ifF c3 hf
    refine mt_ltI hf (fun M4 eM4 hf => ?_)
    have hfr : ∀ id k : Nat, ((id ≠ 147 ∨ k ≠ 11) ∧ (id ≠ 147 ∨ k ≠ 23) ∧ id ≠ 148) → M4 id k = M id k := fun id k hid => (by rw [eM4]; exact mt_wr_ne2 (by omega) : M4 id k = M id k).trans (hfr id k hid)
    refine mt_ltI hf (fun x5 _ hf => ?_)
    refine mt_ltI hf (fun M6 eM6 hf => ?_)
    have hfr : ∀ id k : Nat, ((id ≠ 147 ∨ k ≠ 11) ∧ (id ≠ 147 ∨ k ≠ 23) ∧ id ≠ 148) → M6 id k = M id k := fun id k hid => (by rw [eM6]; exact mt_wr_ne2 (by omega) : M6 id k = M4 id k).trans (hfr id k hid)
    obtain ⟨i1, i2⟩ := mt_so2 hf
    subst i1
    subst i2
    exact hfr
set_option maxHeartbeats 4000000 in
set_option maxRecDepth 100000 in
theorem fr_X12_join (M : mt_M) {r : Int32} {M' : mt_M} (hf : f_X12_join M = some (r, M')) : ∀ id k : Nat, ((id ≠ 147 ∨ k ≠ 10) ∧ (id ≠ 147 ∨ k ≠ 11) ∧ (id ≠ 147 ∨ k ≠ 21) ∧ (id ≠ 147 ∨ k ≠ 22) ∧ (id ≠ 147 ∨ k ≠ 23) ∧ (id ≠ 147 ∨ k ≠ 8) ∧ (id ≠ 147 ∨ k ≠ 9) ∧ id ≠ 149 ∧ id ≠ 150 ∧ id ≠ 151 ∧ id ≠ 152 ∧ id ≠ 153 ∧ id ≠ 154 ∧ id ≠ 155 ∧ id ≠ 160) → (M') id k = M id k := by
  unfold f_X12_join at hf
  have hfr : ∀ id k : Nat, ((id ≠ 147 ∨ k ≠ 10) ∧ (id ≠ 147 ∨ k ≠ 11) ∧ (id ≠ 147 ∨ k ≠ 21) ∧ (id ≠ 147 ∨ k ≠ 22) ∧ (id ≠ 147 ∨ k ≠ 23) ∧ (id ≠ 147 ∨ k ≠ 8) ∧ (id ≠ 147 ∨ k ≠ 9) ∧ id ≠ 149 ∧ id ≠ 150 ∧ id ≠ 151 ∧ id ≠ 152 ∧ id ≠ 153 ∧ id ≠ 154 ∧ id ≠ 155 ∧ id ≠ 160) → M id k = M id k := fun _ _ _ => rfl
  refine mt_b1I hf (fun M2 hg1 hf => ?_)
  have hfr : ∀ id k : Nat, ((id ≠ 147 ∨ k ≠ 10) ∧ (id ≠ 147 ∨ k ≠ 11) ∧ (id ≠ 147 ∨ k ≠ 21) ∧ (id ≠ 147 ∨ k ≠ 22) ∧ (id ≠ 147 ∨ k ≠ 23) ∧ (id ≠ 147 ∨ k ≠ 8) ∧ (id ≠ 147 ∨ k ≠ 9) ∧ id ≠ 149 ∧ id ≠ 150 ∧ id ≠ 151 ∧ id ≠ 152 ∧ id ≠ 153 ∧ id ≠ 154 ∧ id ≠ 155 ∧ id ≠ 160) → M2 id k = M id k := fun id k hid => (fr_X12_keepsBack M hg1 id k (by omega)).trans (hfr id k hid)
  refine mt_b2I hf (fun r4 M5 hg3 hf => ?_)
  have hfr : ∀ id k : Nat, ((id ≠ 147 ∨ k ≠ 10) ∧ (id ≠ 147 ∨ k ≠ 11) ∧ (id ≠ 147 ∨ k ≠ 21) ∧ (id ≠ 147 ∨ k ≠ 22) ∧ (id ≠ 147 ∨ k ≠ 23) ∧ (id ≠ 147 ∨ k ≠ 8) ∧ (id ≠ 147 ∨ k ≠ 9) ∧ id ≠ 149 ∧ id ≠ 150 ∧ id ≠ 151 ∧ id ≠ 152 ∧ id ≠ 153 ∧ id ≠ 154 ∧ id ≠ 155 ∧ id ≠ 160) → M5 id k = M id k := fun id k hid => (fr_X12_joins M2 hg3 id k (by omega)).trans (hfr id k hid)
  obtain ⟨i1, i2⟩ := mt_so2 hf
  subst i1
  subst i2
  exact hfr
set_option maxHeartbeats 4000000 in
set_option maxRecDepth 100000 in
theorem fr_X12_day (M : mt_M) {r : Int32} {M' : mt_M} (hf : f_X12_day M = some (r, M')) : ∀ id k : Nat, ((id ≠ 147 ∨ k ≠ 10) ∧ (id ≠ 147 ∨ k ≠ 11) ∧ (id ≠ 147 ∨ k ≠ 21) ∧ (id ≠ 147 ∨ k ≠ 22) ∧ (id ≠ 147 ∨ k ≠ 23) ∧ (id ≠ 147 ∨ k ≠ 8) ∧ (id ≠ 147 ∨ k ≠ 9) ∧ id ≠ 148 ∧ id ≠ 149 ∧ id ≠ 150 ∧ id ≠ 151 ∧ id ≠ 152 ∧ id ≠ 153 ∧ id ≠ 154 ∧ id ≠ 155 ∧ id ≠ 160) → (M') id k = M id k := by
  unfold f_X12_day at hf
  have hfr : ∀ id k : Nat, ((id ≠ 147 ∨ k ≠ 10) ∧ (id ≠ 147 ∨ k ≠ 11) ∧ (id ≠ 147 ∨ k ≠ 21) ∧ (id ≠ 147 ∨ k ≠ 22) ∧ (id ≠ 147 ∨ k ≠ 23) ∧ (id ≠ 147 ∨ k ≠ 8) ∧ (id ≠ 147 ∨ k ≠ 9) ∧ id ≠ 148 ∧ id ≠ 149 ∧ id ≠ 150 ∧ id ≠ 151 ∧ id ≠ 152 ∧ id ≠ 153 ∧ id ≠ 154 ∧ id ≠ 155 ∧ id ≠ 160) → M id k = M id k := fun _ _ _ => rfl
  by_cases c1 : (M 147 10) = (999 : Int32)
  · have hf := mt_ifT c1 hf
    refine mt_b2I hf (fun r8 M9 hg7 hf => ?_)
    have hfr : ∀ id k : Nat, ((id ≠ 147 ∨ k ≠ 10) ∧ (id ≠ 147 ∨ k ≠ 11) ∧ (id ≠ 147 ∨ k ≠ 21) ∧ (id ≠ 147 ∨ k ≠ 22) ∧ (id ≠ 147 ∨ k ≠ 23) ∧ (id ≠ 147 ∨ k ≠ 8) ∧ (id ≠ 147 ∨ k ≠ 9) ∧ id ≠ 148 ∧ id ≠ 149 ∧ id ≠ 150 ∧ id ≠ 151 ∧ id ≠ 152 ∧ id ≠ 153 ∧ id ≠ 154 ∧ id ≠ 155 ∧ id ≠ 160) → M9 id k = M id k := fun id k hid => (fr_X12_no (-6 : Int32) M hg7 id k (by omega)).trans (hfr id k hid)
    obtain ⟨i1, i2⟩ := mt_so2 hf
    subst i1
    subst i2
    exact hfr
  · have hf := mt_ifF c1 hf
    refine mt_b1I hf (fun M3 hg2 hf => ?_)
    have hfr : ∀ id k : Nat, ((id ≠ 147 ∨ k ≠ 10) ∧ (id ≠ 147 ∨ k ≠ 11) ∧ (id ≠ 147 ∨ k ≠ 21) ∧ (id ≠ 147 ∨ k ≠ 22) ∧ (id ≠ 147 ∨ k ≠ 23) ∧ (id ≠ 147 ∨ k ≠ 8) ∧ (id ≠ 147 ∨ k ≠ 9) ∧ id ≠ 148 ∧ id ≠ 149 ∧ id ≠ 150 ∧ id ≠ 151 ∧ id ≠ 152 ∧ id ≠ 153 ∧ id ≠ 154 ∧ id ≠ 155 ∧ id ≠ 160) → M3 id k = M id k := fun id k hid => (fr_X12_keepsBack M hg2 id k (by omega)).trans (hfr id k hid)
    refine mt_b2I hf (fun r5 M6 hg4 hf => ?_)
    have hfr : ∀ id k : Nat, ((id ≠ 147 ∨ k ≠ 10) ∧ (id ≠ 147 ∨ k ≠ 11) ∧ (id ≠ 147 ∨ k ≠ 21) ∧ (id ≠ 147 ∨ k ≠ 22) ∧ (id ≠ 147 ∨ k ≠ 23) ∧ (id ≠ 147 ∨ k ≠ 8) ∧ (id ≠ 147 ∨ k ≠ 9) ∧ id ≠ 148 ∧ id ≠ 149 ∧ id ≠ 150 ∧ id ≠ 151 ∧ id ≠ 152 ∧ id ≠ 153 ∧ id ≠ 154 ∧ id ≠ 155 ∧ id ≠ 160) → M6 id k = M id k := fun id k hid => (fr_X12_goesDay M3 hg4 id k (by omega)).trans (hfr id k hid)
    obtain ⟨i1, i2⟩ := mt_so2 hf
    subst i1
    subst i2
    exact hfr
set_option maxHeartbeats 4000000 in
set_option maxRecDepth 100000 in
theorem fr_X12_joined (a1 : Int32) (a2 : Int32) (M : mt_M) {r : Int32} {M' : mt_M} (hf : f_X12_joined a1 a2 M = some (r, M')) : ∀ id k : Nat, (id ≠ 148) → (M') id k = M id k := by
  unfold f_X12_joined at hf
  have hfr : ∀ id k : Nat, (id ≠ 148) → M id k = M id k := fun _ _ _ => rfl
  refine mt_b1I hf (fun r2 hg1 hf => ?_)
  refine mt_jn0 hf ((∀ id k : Nat, (id ≠ 148) → M id k = M id k) → ∀ id k : Nat, (id ≠ 148) → (M') id k = M id k) ?_ ?_
  · intro hf hfr
    refine mt_b2I hf (fun r6 M7 hg5 hf => ?_)
    have hfr : ∀ id k : Nat, (id ≠ 148) → M7 id k = M id k := fun id k hid => (fr_X12_no (-2 : Int32) M hg5 id k (by omega)).trans (hfr id k hid)
    obtain ⟨i1, i2⟩ := mt_so2 hf
    subst i1
    subst i2
    exact hfr
  · intro j3 hj4 hf
    by_cases c8 : r2 = 0
    · have hf := mt_ifT c8 hf
      exact hj4 hf hfr
    · have hf := mt_ifF c8 hf
      refine mt_b1I hf (fun r10 hg9 hf => ?_)
      by_cases c11 : r10 = 0
      · have hf := mt_ifT c11 hf
        exact hj4 hf hfr
      · have hf := mt_ifF c11 hf
        refine mt_b1I hf (fun r13 hg12 hf => ?_)
        by_cases c14 : a2 = 0
        · have hf := mt_ifT c14 hf
          obtain ⟨i1, i2⟩ := mt_so2 hf
          subst i1
          subst i2
          exact hfr
        · have hf := mt_ifF c14 hf
          by_cases c15 : a2 = (1 : Int32)
          · have hf := mt_ifT c15 hf
            refine mt_b1I hf (fun r19 hg18 hf => ?_)
            obtain ⟨i1, i2⟩ := mt_so2 hf
            subst i1
            subst i2
            exact hfr
          · have hf := mt_ifF c15 hf
            refine mt_b1I hf (fun r17 hg16 hf => ?_)
            obtain ⟨i1, i2⟩ := mt_so2 hf
            subst i1
            subst i2
            exact hfr
set_option maxHeartbeats 4000000 in
set_option maxRecDepth 100000 in
theorem fr_X12_bestRule (a1 : Int32) (M : mt_M) {r : Int32} {M' : mt_M} (hf : f_X12_bestRule a1 M = some (r, M')) : ∀ id k : Nat, (id ≠ 148) → (M') id k = M id k := by
  unfold f_X12_bestRule at hf
  have hfr : ∀ id k : Nat, (id ≠ 148) → M id k = M id k := fun _ _ _ => rfl
  refine mt_b1I hf (fun r2 hg1 hf => ?_)
  by_cases c3 : r2 = 0
  · have hf := mt_ifT c3 hf
    refine mt_b2I hf (fun r22 M23 hg21 hf => ?_)
    have hfr : ∀ id k : Nat, (id ≠ 148) → M23 id k = M id k := fun id k hid => (fr_X12_no (-2 : Int32) M hg21 id k (by omega)).trans (hfr id k hid)
    obtain ⟨i1, i2⟩ := mt_so2 hf
    subst i1
    subst i2
    exact hfr
  · have hf := mt_ifF c3 hf
    refine mt_lpI2 hf (fun (x4 : Int32) (x5 : Int32) => (∀ id k : Nat, (id ≠ 148) → M id k = M id k) → ∀ id k : Nat, (id ≠ 148) → (M') id k = M id k) ?_ hfr
    intro k6 ih7 x4 x5 hf hfr
    by_cases c8 : (4 : Int32) ≤ x5
    · have hf := mt_ifT c8 hf
      by_cases c9 : a1 = 0
      · have hf := mt_ifT c9 hf
        obtain ⟨i1, i2⟩ := mt_so2 hf
        subst i1
        subst i2
        exact hfr
      · have hf := mt_ifF c9 hf
        refine mt_b1I hf (fun r11 hg10 hf => ?_)
        obtain ⟨i1, i2⟩ := mt_so2 hf
        subst i1
        subst i2
        exact hfr
    · have hf := mt_ifF c8 hf
      refine mt_b1I hf (fun r13 hg12 hf => ?_)
      refine mt_b1I hf (fun r15 hg14 hf => ?_)
      refine mt_jn1 hf (fun (v16 : Int32) => (∀ id k : Nat, (id ≠ 148) → M id k = M id k) → ∀ id k : Nat, (id ≠ 148) → (M') id k = M id k) ?_ ?_
      · intro v16 hf hfr
        refine mt_ltI hf (fun x19 _ hf => ?_)
        exact ih7 v16 x19 hf hfr
      · intro j17 hj18 hf
        by_cases c20 : r15 ≤ r13
        · have hf := mt_ifT c20 hf
          exact hj18 x4 hf hfr
        · have hf := mt_ifF c20 hf
          exact hj18 x5 hf hfr
set_option maxHeartbeats 4000000 in
set_option maxRecDepth 100000 in
theorem fr_X12_stockIn (a1 : Int32) (a2 : Int32) (M : mt_M) {r : Int32} {M' : mt_M} (hf : f_X12_stockIn a1 a2 M = some (r, M')) : ∀ id k : Nat, ((id ≠ 147 ∨ k ≠ 10) ∧ (id ≠ 147 ∨ k ≠ 11) ∧ (id ≠ 147 ∨ k ≠ 21) ∧ (id ≠ 147 ∨ k ≠ 22) ∧ (id ≠ 147 ∨ k ≠ 8) ∧ (id ≠ 147 ∨ k ≠ 9) ∧ id ≠ 148 ∧ id ≠ 149 ∧ id ≠ 150 ∧ id ≠ 151 ∧ id ≠ 152 ∧ id ≠ 153 ∧ id ≠ 154 ∧ id ≠ 155 ∧ id ≠ 160) → (M') id k = M id k := by
  unfold f_X12_stockIn at hf
  have hfr : ∀ id k : Nat, ((id ≠ 147 ∨ k ≠ 10) ∧ (id ≠ 147 ∨ k ≠ 11) ∧ (id ≠ 147 ∨ k ≠ 21) ∧ (id ≠ 147 ∨ k ≠ 22) ∧ (id ≠ 147 ∨ k ≠ 8) ∧ (id ≠ 147 ∨ k ≠ 9) ∧ id ≠ 148 ∧ id ≠ 149 ∧ id ≠ 150 ∧ id ≠ 151 ∧ id ≠ 152 ∧ id ≠ 153 ∧ id ≠ 154 ∧ id ≠ 155 ∧ id ≠ 160) → M id k = M id k := fun _ _ _ => rfl
  refine mt_b1I hf (fun r2 hg1 hf => ?_)
  refine mt_jn1 hf (fun (v3 : Int32) => (∀ id k : Nat, ((id ≠ 147 ∨ k ≠ 10) ∧ (id ≠ 147 ∨ k ≠ 11) ∧ (id ≠ 147 ∨ k ≠ 21) ∧ (id ≠ 147 ∨ k ≠ 22) ∧ (id ≠ 147 ∨ k ≠ 8) ∧ (id ≠ 147 ∨ k ≠ 9) ∧ id ≠ 148 ∧ id ≠ 149 ∧ id ≠ 150 ∧ id ≠ 151 ∧ id ≠ 152 ∧ id ≠ 153 ∧ id ≠ 154 ∧ id ≠ 155 ∧ id ≠ 160) → M id k = M id k) → ∀ id k : Nat, ((id ≠ 147 ∨ k ≠ 10) ∧ (id ≠ 147 ∨ k ≠ 11) ∧ (id ≠ 147 ∨ k ≠ 21) ∧ (id ≠ 147 ∨ k ≠ 22) ∧ (id ≠ 147 ∨ k ≠ 8) ∧ (id ≠ 147 ∨ k ≠ 9) ∧ id ≠ 148 ∧ id ≠ 149 ∧ id ≠ 150 ∧ id ≠ 151 ∧ id ≠ 152 ∧ id ≠ 153 ∧ id ≠ 154 ∧ id ≠ 155 ∧ id ≠ 160) → (M') id k = M id k) ?_ ?_
  · intro v3 hf hfr
    by_cases c6 : v3 = 0
    · have hf := mt_ifT c6 hf
      refine mt_b1I hf (fun M8 hg7 hf => ?_)
      have hfr : ∀ id k : Nat, ((id ≠ 147 ∨ k ≠ 10) ∧ (id ≠ 147 ∨ k ≠ 11) ∧ (id ≠ 147 ∨ k ≠ 21) ∧ (id ≠ 147 ∨ k ≠ 22) ∧ (id ≠ 147 ∨ k ≠ 8) ∧ (id ≠ 147 ∨ k ≠ 9) ∧ id ≠ 148 ∧ id ≠ 149 ∧ id ≠ 150 ∧ id ≠ 151 ∧ id ≠ 152 ∧ id ≠ 153 ∧ id ≠ 154 ∧ id ≠ 155 ∧ id ≠ 160) → M8 id k = M id k := fun id k hid => (fr_X12_thinks M hg7 id k (by omega)).trans (hfr id k hid)
      refine mt_lpI2 hf (fun (x9 : Int32) (M10 : mt_M) => (∀ id k : Nat, ((id ≠ 147 ∨ k ≠ 10) ∧ (id ≠ 147 ∨ k ≠ 11) ∧ (id ≠ 147 ∨ k ≠ 21) ∧ (id ≠ 147 ∨ k ≠ 22) ∧ (id ≠ 147 ∨ k ≠ 8) ∧ (id ≠ 147 ∨ k ≠ 9) ∧ id ≠ 148 ∧ id ≠ 149 ∧ id ≠ 150 ∧ id ≠ 151 ∧ id ≠ 152 ∧ id ≠ 153 ∧ id ≠ 154 ∧ id ≠ 155 ∧ id ≠ 160) → M10 id k = M id k) → ∀ id k : Nat, ((id ≠ 147 ∨ k ≠ 10) ∧ (id ≠ 147 ∨ k ≠ 11) ∧ (id ≠ 147 ∨ k ≠ 21) ∧ (id ≠ 147 ∨ k ≠ 22) ∧ (id ≠ 147 ∨ k ≠ 8) ∧ (id ≠ 147 ∨ k ≠ 9) ∧ id ≠ 148 ∧ id ≠ 149 ∧ id ≠ 150 ∧ id ≠ 151 ∧ id ≠ 152 ∧ id ≠ 153 ∧ id ≠ 154 ∧ id ≠ 155 ∧ id ≠ 160) → (M') id k = M id k) ?_ hfr
      intro k11 ih12 x9 M10 hf hfr
      by_cases c13 : a2 ≤ x9
      · have hf := mt_ifT c13 hf
        refine mt_ciI hf (fun _ hf => ?_)
        refine mt_ltI hf (fun x15 _ hf => ?_)
        refine mt_b1I hf (fun M17 hg16 hf => ?_)
        have hfr : ∀ id k : Nat, ((id ≠ 147 ∨ k ≠ 10) ∧ (id ≠ 147 ∨ k ≠ 11) ∧ (id ≠ 147 ∨ k ≠ 21) ∧ (id ≠ 147 ∨ k ≠ 22) ∧ (id ≠ 147 ∨ k ≠ 8) ∧ (id ≠ 147 ∨ k ≠ 9) ∧ id ≠ 148 ∧ id ≠ 149 ∧ id ≠ 150 ∧ id ≠ 151 ∧ id ≠ 152 ∧ id ≠ 153 ∧ id ≠ 154 ∧ id ≠ 155 ∧ id ≠ 160) → M17 id k = M id k := fun id k hid => (fr_X12_forgets M10 hg16 id k (by omega)).trans (hfr id k hid)
        obtain ⟨i1, i2⟩ := mt_so2 hf
        subst i1
        subst i2
        exact hfr
      · have hf := mt_ifF c13 hf
        refine mt_b2I hf (fun r19 M20 hg18 hf => ?_)
        have hfr : ∀ id k : Nat, ((id ≠ 147 ∨ k ≠ 10) ∧ (id ≠ 147 ∨ k ≠ 11) ∧ (id ≠ 147 ∨ k ≠ 21) ∧ (id ≠ 147 ∨ k ≠ 22) ∧ (id ≠ 147 ∨ k ≠ 8) ∧ (id ≠ 147 ∨ k ≠ 9) ∧ id ≠ 148 ∧ id ≠ 149 ∧ id ≠ 150 ∧ id ≠ 151 ∧ id ≠ 152 ∧ id ≠ 153 ∧ id ≠ 154 ∧ id ≠ 155 ∧ id ≠ 160) → M20 id k = M id k := fun id k hid => (fr_X12_goesDay M10 hg18 id k (by omega)).trans (hfr id k hid)
        refine mt_ltI hf (fun x21 _ hf => ?_)
        exact ih12 x21 M20 hf hfr
    · have hf := mt_ifF c6 hf
      refine mt_b2I hf (fun r23 M24 hg22 hf => ?_)
      have hfr : ∀ id k : Nat, ((id ≠ 147 ∨ k ≠ 10) ∧ (id ≠ 147 ∨ k ≠ 11) ∧ (id ≠ 147 ∨ k ≠ 21) ∧ (id ≠ 147 ∨ k ≠ 22) ∧ (id ≠ 147 ∨ k ≠ 8) ∧ (id ≠ 147 ∨ k ≠ 9) ∧ id ≠ 148 ∧ id ≠ 149 ∧ id ≠ 150 ∧ id ≠ 151 ∧ id ≠ 152 ∧ id ≠ 153 ∧ id ≠ 154 ∧ id ≠ 155 ∧ id ≠ 160) → M24 id k = M id k := fun id k hid => (fr_X12_no v3 M hg22 id k (by omega)).trans (hfr id k hid)
      obtain ⟨i1, i2⟩ := mt_so2 hf
      subst i1
      subst i2
      exact hfr
  · intro j4 hj5 hf
    by_cases c25 : r2 = 0
    · have hf := mt_ifT c25 hf
      exact hj5 (-1 : Int32) hf hfr
    · have hf := mt_ifF c25 hf
      refine mt_b1I hf (fun r27 hg26 hf => ?_)
      exact hj5 r27 hf hfr
set_option maxHeartbeats 4000000 in
set_option maxRecDepth 100000 in
theorem fr_X12_lackingIn (a1 : Int32) (M : mt_M) {r : Int32} {M' : mt_M} (hf : f_X12_lackingIn a1 M = some (r, M')) : ∀ id k : Nat, ((id ≠ 147 ∨ k ≠ 10) ∧ (id ≠ 147 ∨ k ≠ 11) ∧ (id ≠ 147 ∨ k ≠ 21) ∧ (id ≠ 147 ∨ k ≠ 22) ∧ (id ≠ 147 ∨ k ≠ 24) ∧ (id ≠ 147 ∨ k ≠ 8) ∧ (id ≠ 147 ∨ k ≠ 9) ∧ id ≠ 149 ∧ id ≠ 150 ∧ id ≠ 151 ∧ id ≠ 152 ∧ id ≠ 153 ∧ id ≠ 154 ∧ id ≠ 155 ∧ id ≠ 160) → (M') id k = M id k := by
  unfold f_X12_lackingIn at hf
  have hfr : ∀ id k : Nat, ((id ≠ 147 ∨ k ≠ 10) ∧ (id ≠ 147 ∨ k ≠ 11) ∧ (id ≠ 147 ∨ k ≠ 21) ∧ (id ≠ 147 ∨ k ≠ 22) ∧ (id ≠ 147 ∨ k ≠ 24) ∧ (id ≠ 147 ∨ k ≠ 8) ∧ (id ≠ 147 ∨ k ≠ 9) ∧ id ≠ 149 ∧ id ≠ 150 ∧ id ≠ 151 ∧ id ≠ 152 ∧ id ≠ 153 ∧ id ≠ 154 ∧ id ≠ 155 ∧ id ≠ 160) → M id k = M id k := fun _ _ _ => rfl
  refine mt_b1I hf (fun M2 hg1 hf => ?_)
  have hfr : ∀ id k : Nat, ((id ≠ 147 ∨ k ≠ 10) ∧ (id ≠ 147 ∨ k ≠ 11) ∧ (id ≠ 147 ∨ k ≠ 21) ∧ (id ≠ 147 ∨ k ≠ 22) ∧ (id ≠ 147 ∨ k ≠ 24) ∧ (id ≠ 147 ∨ k ≠ 8) ∧ (id ≠ 147 ∨ k ≠ 9) ∧ id ≠ 149 ∧ id ≠ 150 ∧ id ≠ 151 ∧ id ≠ 152 ∧ id ≠ 153 ∧ id ≠ 154 ∧ id ≠ 155 ∧ id ≠ 160) → M2 id k = M id k := fun id k hid => (fr_X12_thinks M hg1 id k (by omega)).trans (hfr id k hid)
  refine mt_ltI hf (fun x3 _ hf => ?_)
  refine mt_ltI hf (fun x4 _ hf => ?_)
  refine mt_lpI2 hf (fun (x5 : Int32) (M6 : mt_M) => (∀ id k : Nat, ((id ≠ 147 ∨ k ≠ 10) ∧ (id ≠ 147 ∨ k ≠ 11) ∧ (id ≠ 147 ∨ k ≠ 21) ∧ (id ≠ 147 ∨ k ≠ 22) ∧ (id ≠ 147 ∨ k ≠ 24) ∧ (id ≠ 147 ∨ k ≠ 8) ∧ (id ≠ 147 ∨ k ≠ 9) ∧ id ≠ 149 ∧ id ≠ 150 ∧ id ≠ 151 ∧ id ≠ 152 ∧ id ≠ 153 ∧ id ≠ 154 ∧ id ≠ 155 ∧ id ≠ 160) → M6 id k = M id k) → ∀ id k : Nat, ((id ≠ 147 ∨ k ≠ 10) ∧ (id ≠ 147 ∨ k ≠ 11) ∧ (id ≠ 147 ∨ k ≠ 21) ∧ (id ≠ 147 ∨ k ≠ 22) ∧ (id ≠ 147 ∨ k ≠ 24) ∧ (id ≠ 147 ∨ k ≠ 8) ∧ (id ≠ 147 ∨ k ≠ 9) ∧ id ≠ 149 ∧ id ≠ 150 ∧ id ≠ 151 ∧ id ≠ 152 ∧ id ≠ 153 ∧ id ≠ 154 ∧ id ≠ 155 ∧ id ≠ 160) → (M') id k = M id k) ?_ hfr
  intro k7 ih8 x5 M6 hf hfr
  by_cases c9 : a1 ≤ x5
  · have hf := mt_ifT c9 hf
    refine mt_ltI hf (fun x10 _ hf => ?_)
    refine mt_ltI hf (fun M11 eM11 hf => ?_)
    have hfr : ∀ id k : Nat, ((id ≠ 147 ∨ k ≠ 10) ∧ (id ≠ 147 ∨ k ≠ 11) ∧ (id ≠ 147 ∨ k ≠ 21) ∧ (id ≠ 147 ∨ k ≠ 22) ∧ (id ≠ 147 ∨ k ≠ 24) ∧ (id ≠ 147 ∨ k ≠ 8) ∧ (id ≠ 147 ∨ k ≠ 9) ∧ id ≠ 149 ∧ id ≠ 150 ∧ id ≠ 151 ∧ id ≠ 152 ∧ id ≠ 153 ∧ id ≠ 154 ∧ id ≠ 155 ∧ id ≠ 160) → M11 id k = M id k := fun id k hid => (by rw [eM11]; exact mt_wr_ne2 (by omega) : M11 id k = M6 id k).trans (hfr id k hid)
    refine mt_b1I hf (fun M13 hg12 hf => ?_)
    have hfr : ∀ id k : Nat, ((id ≠ 147 ∨ k ≠ 10) ∧ (id ≠ 147 ∨ k ≠ 11) ∧ (id ≠ 147 ∨ k ≠ 21) ∧ (id ≠ 147 ∨ k ≠ 22) ∧ (id ≠ 147 ∨ k ≠ 24) ∧ (id ≠ 147 ∨ k ≠ 8) ∧ (id ≠ 147 ∨ k ≠ 9) ∧ id ≠ 149 ∧ id ≠ 150 ∧ id ≠ 151 ∧ id ≠ 152 ∧ id ≠ 153 ∧ id ≠ 154 ∧ id ≠ 155 ∧ id ≠ 160) → M13 id k = M id k := fun id k hid => (fr_X12_forgets M11 hg12 id k (by omega)).trans (hfr id k hid)
    obtain ⟨i1, i2⟩ := mt_so2 hf
    subst i1
    subst i2
    exact hfr
  · have hf := mt_ifF c9 hf
    refine mt_b2I hf (fun r15 M16 hg14 hf => ?_)
    have hfr : ∀ id k : Nat, ((id ≠ 147 ∨ k ≠ 10) ∧ (id ≠ 147 ∨ k ≠ 11) ∧ (id ≠ 147 ∨ k ≠ 21) ∧ (id ≠ 147 ∨ k ≠ 22) ∧ (id ≠ 147 ∨ k ≠ 24) ∧ (id ≠ 147 ∨ k ≠ 8) ∧ (id ≠ 147 ∨ k ≠ 9) ∧ id ≠ 149 ∧ id ≠ 150 ∧ id ≠ 151 ∧ id ≠ 152 ∧ id ≠ 153 ∧ id ≠ 154 ∧ id ≠ 155 ∧ id ≠ 160) → M16 id k = M id k := fun id k hid => (fr_X12_goesDay M6 hg14 id k (by omega)).trans (hfr id k hid)
    refine mt_ltI hf (fun x17 _ hf => ?_)
    exact ih8 x17 M16 hf hfr
set_option maxHeartbeats 4000000 in
set_option maxRecDepth 100000 in
theorem fr_X12_lacking (a1 : Int32) (a2 : Int32) (M : mt_M) {r : Int32} {M' : mt_M} (hf : f_X12_lacking a1 a2 M = some (r, M')) : ∀ id k : Nat, ((id ≠ 147 ∨ k ≠ 10) ∧ (id ≠ 147 ∨ k ≠ 11) ∧ (id ≠ 147 ∨ k ≠ 21) ∧ (id ≠ 147 ∨ k ≠ 22) ∧ (id ≠ 147 ∨ k ≠ 24) ∧ (id ≠ 147 ∨ k ≠ 8) ∧ (id ≠ 147 ∨ k ≠ 9) ∧ id ≠ 148 ∧ id ≠ 149 ∧ id ≠ 150 ∧ id ≠ 151 ∧ id ≠ 152 ∧ id ≠ 153 ∧ id ≠ 154 ∧ id ≠ 155 ∧ id ≠ 160) → (M') id k = M id k := by
  unfold f_X12_lacking at hf
  have hfr : ∀ id k : Nat, ((id ≠ 147 ∨ k ≠ 10) ∧ (id ≠ 147 ∨ k ≠ 11) ∧ (id ≠ 147 ∨ k ≠ 21) ∧ (id ≠ 147 ∨ k ≠ 22) ∧ (id ≠ 147 ∨ k ≠ 24) ∧ (id ≠ 147 ∨ k ≠ 8) ∧ (id ≠ 147 ∨ k ≠ 9) ∧ id ≠ 148 ∧ id ≠ 149 ∧ id ≠ 150 ∧ id ≠ 151 ∧ id ≠ 152 ∧ id ≠ 153 ∧ id ≠ 154 ∧ id ≠ 155 ∧ id ≠ 160) → M id k = M id k := fun _ _ _ => rfl
  refine mt_b1I hf (fun r2 hg1 hf => ?_)
  refine mt_jn1 hf (fun (x3 : Int32) => (∀ id k : Nat, ((id ≠ 147 ∨ k ≠ 10) ∧ (id ≠ 147 ∨ k ≠ 11) ∧ (id ≠ 147 ∨ k ≠ 21) ∧ (id ≠ 147 ∨ k ≠ 22) ∧ (id ≠ 147 ∨ k ≠ 24) ∧ (id ≠ 147 ∨ k ≠ 8) ∧ (id ≠ 147 ∨ k ≠ 9) ∧ id ≠ 148 ∧ id ≠ 149 ∧ id ≠ 150 ∧ id ≠ 151 ∧ id ≠ 152 ∧ id ≠ 153 ∧ id ≠ 154 ∧ id ≠ 155 ∧ id ≠ 160) → M id k = M id k) → ∀ id k : Nat, ((id ≠ 147 ∨ k ≠ 10) ∧ (id ≠ 147 ∨ k ≠ 11) ∧ (id ≠ 147 ∨ k ≠ 21) ∧ (id ≠ 147 ∨ k ≠ 22) ∧ (id ≠ 147 ∨ k ≠ 24) ∧ (id ≠ 147 ∨ k ≠ 8) ∧ (id ≠ 147 ∨ k ≠ 9) ∧ id ≠ 148 ∧ id ≠ 149 ∧ id ≠ 150 ∧ id ≠ 151 ∧ id ≠ 152 ∧ id ≠ 153 ∧ id ≠ 154 ∧ id ≠ 155 ∧ id ≠ 160) → (M') id k = M id k) ?_ ?_
  · intro x3 hf hfr
    by_cases c6 : x3 = 0
    · have hf := mt_ifT c6 hf
      refine mt_b2I hf (fun r8 M9 hg7 hf => ?_)
      have hfr : ∀ id k : Nat, ((id ≠ 147 ∨ k ≠ 10) ∧ (id ≠ 147 ∨ k ≠ 11) ∧ (id ≠ 147 ∨ k ≠ 21) ∧ (id ≠ 147 ∨ k ≠ 22) ∧ (id ≠ 147 ∨ k ≠ 24) ∧ (id ≠ 147 ∨ k ≠ 8) ∧ (id ≠ 147 ∨ k ≠ 9) ∧ id ≠ 148 ∧ id ≠ 149 ∧ id ≠ 150 ∧ id ≠ 151 ∧ id ≠ 152 ∧ id ≠ 153 ∧ id ≠ 154 ∧ id ≠ 155 ∧ id ≠ 160) → M9 id k = M id k := fun id k hid => (fr_X12_lackingIn a1 M hg7 id k (by omega)).trans (hfr id k hid)
      by_cases c10 : a2 = 0
      · have hf := mt_ifT c10 hf
        obtain ⟨i1, i2⟩ := mt_so2 hf
        subst i1
        subst i2
        exact hfr
      · have hf := mt_ifF c10 hf
        obtain ⟨i1, i2⟩ := mt_so2 hf
        subst i1
        subst i2
        exact hfr
    · have hf := mt_ifF c6 hf
      refine mt_b2I hf (fun r12 M13 hg11 hf => ?_)
      have hfr : ∀ id k : Nat, ((id ≠ 147 ∨ k ≠ 10) ∧ (id ≠ 147 ∨ k ≠ 11) ∧ (id ≠ 147 ∨ k ≠ 21) ∧ (id ≠ 147 ∨ k ≠ 22) ∧ (id ≠ 147 ∨ k ≠ 24) ∧ (id ≠ 147 ∨ k ≠ 8) ∧ (id ≠ 147 ∨ k ≠ 9) ∧ id ≠ 148 ∧ id ≠ 149 ∧ id ≠ 150 ∧ id ≠ 151 ∧ id ≠ 152 ∧ id ≠ 153 ∧ id ≠ 154 ∧ id ≠ 155 ∧ id ≠ 160) → M13 id k = M id k := fun id k hid => (fr_X12_no x3 M hg11 id k (by omega)).trans (hfr id k hid)
      obtain ⟨i1, i2⟩ := mt_so2 hf
      subst i1
      subst i2
      exact hfr
  · intro j4 hj5 hf
    by_cases c14 : r2 = 0
    · have hf := mt_ifT c14 hf
      refine mt_b1I hf (fun r16 hg15 hf => ?_)
      by_cases c17 : r16 = 0
      · have hf := mt_ifT c17 hf
        exact hj5 (-2 : Int32) hf hfr
      · have hf := mt_ifF c17 hf
        exact hj5 r2 hf hfr
    · have hf := mt_ifF c14 hf
      exact hj5 r2 hf hfr
set_option maxHeartbeats 4000000 in
set_option maxRecDepth 100000 in
theorem fr_X12_firstLack (a1 : Int32) (M : mt_M) {r : Int32} {M' : mt_M} (hf : f_X12_firstLack a1 M = some (r, M')) : ∀ id k : Nat, ((id ≠ 147 ∨ k ≠ 10) ∧ (id ≠ 147 ∨ k ≠ 11) ∧ (id ≠ 147 ∨ k ≠ 21) ∧ (id ≠ 147 ∨ k ≠ 22) ∧ (id ≠ 147 ∨ k ≠ 8) ∧ (id ≠ 147 ∨ k ≠ 9) ∧ id ≠ 149 ∧ id ≠ 150 ∧ id ≠ 151 ∧ id ≠ 152 ∧ id ≠ 153 ∧ id ≠ 154 ∧ id ≠ 155 ∧ id ≠ 160) → (M') id k = M id k := by
  unfold f_X12_firstLack at hf
  have hfr : ∀ id k : Nat, ((id ≠ 147 ∨ k ≠ 10) ∧ (id ≠ 147 ∨ k ≠ 11) ∧ (id ≠ 147 ∨ k ≠ 21) ∧ (id ≠ 147 ∨ k ≠ 22) ∧ (id ≠ 147 ∨ k ≠ 8) ∧ (id ≠ 147 ∨ k ≠ 9) ∧ id ≠ 149 ∧ id ≠ 150 ∧ id ≠ 151 ∧ id ≠ 152 ∧ id ≠ 153 ∧ id ≠ 154 ∧ id ≠ 155 ∧ id ≠ 160) → M id k = M id k := fun _ _ _ => rfl
  refine mt_b1I hf (fun M2 hg1 hf => ?_)
  have hfr : ∀ id k : Nat, ((id ≠ 147 ∨ k ≠ 10) ∧ (id ≠ 147 ∨ k ≠ 11) ∧ (id ≠ 147 ∨ k ≠ 21) ∧ (id ≠ 147 ∨ k ≠ 22) ∧ (id ≠ 147 ∨ k ≠ 8) ∧ (id ≠ 147 ∨ k ≠ 9) ∧ id ≠ 149 ∧ id ≠ 150 ∧ id ≠ 151 ∧ id ≠ 152 ∧ id ≠ 153 ∧ id ≠ 154 ∧ id ≠ 155 ∧ id ≠ 160) → M2 id k = M id k := fun id k hid => (fr_X12_thinks M hg1 id k (by omega)).trans (hfr id k hid)
  refine mt_lpI3 hf (fun (x3 : Int32) (x4 : Int32) (M5 : mt_M) => (∀ id k : Nat, ((id ≠ 147 ∨ k ≠ 10) ∧ (id ≠ 147 ∨ k ≠ 11) ∧ (id ≠ 147 ∨ k ≠ 21) ∧ (id ≠ 147 ∨ k ≠ 22) ∧ (id ≠ 147 ∨ k ≠ 8) ∧ (id ≠ 147 ∨ k ≠ 9) ∧ id ≠ 149 ∧ id ≠ 150 ∧ id ≠ 151 ∧ id ≠ 152 ∧ id ≠ 153 ∧ id ≠ 154 ∧ id ≠ 155 ∧ id ≠ 160) → M5 id k = M id k) → ∀ id k : Nat, ((id ≠ 147 ∨ k ≠ 10) ∧ (id ≠ 147 ∨ k ≠ 11) ∧ (id ≠ 147 ∨ k ≠ 21) ∧ (id ≠ 147 ∨ k ≠ 22) ∧ (id ≠ 147 ∨ k ≠ 8) ∧ (id ≠ 147 ∨ k ≠ 9) ∧ id ≠ 149 ∧ id ≠ 150 ∧ id ≠ 151 ∧ id ≠ 152 ∧ id ≠ 153 ∧ id ≠ 154 ∧ id ≠ 155 ∧ id ≠ 160) → (M') id k = M id k) ?_ hfr
  intro k6 ih7 x3 x4 M5 hf hfr
  refine mt_jn0 hf ((∀ id k : Nat, ((id ≠ 147 ∨ k ≠ 10) ∧ (id ≠ 147 ∨ k ≠ 11) ∧ (id ≠ 147 ∨ k ≠ 21) ∧ (id ≠ 147 ∨ k ≠ 22) ∧ (id ≠ 147 ∨ k ≠ 8) ∧ (id ≠ 147 ∨ k ≠ 9) ∧ id ≠ 149 ∧ id ≠ 150 ∧ id ≠ 151 ∧ id ≠ 152 ∧ id ≠ 153 ∧ id ≠ 154 ∧ id ≠ 155 ∧ id ≠ 160) → M5 id k = M id k) → ∀ id k : Nat, ((id ≠ 147 ∨ k ≠ 10) ∧ (id ≠ 147 ∨ k ≠ 11) ∧ (id ≠ 147 ∨ k ≠ 21) ∧ (id ≠ 147 ∨ k ≠ 22) ∧ (id ≠ 147 ∨ k ≠ 8) ∧ (id ≠ 147 ∨ k ≠ 9) ∧ id ≠ 149 ∧ id ≠ 150 ∧ id ≠ 151 ∧ id ≠ 152 ∧ id ≠ 153 ∧ id ≠ 154 ∧ id ≠ 155 ∧ id ≠ 160) → (M') id k = M id k) ?_ ?_
  · intro hf hfr
    refine mt_b1I hf (fun M11 hg10 hf => ?_)
    have hfr : ∀ id k : Nat, ((id ≠ 147 ∨ k ≠ 10) ∧ (id ≠ 147 ∨ k ≠ 11) ∧ (id ≠ 147 ∨ k ≠ 21) ∧ (id ≠ 147 ∨ k ≠ 22) ∧ (id ≠ 147 ∨ k ≠ 8) ∧ (id ≠ 147 ∨ k ≠ 9) ∧ id ≠ 149 ∧ id ≠ 150 ∧ id ≠ 151 ∧ id ≠ 152 ∧ id ≠ 153 ∧ id ≠ 154 ∧ id ≠ 155 ∧ id ≠ 160) → M11 id k = M id k := fun id k hid => (fr_X12_forgets M5 hg10 id k (by omega)).trans (hfr id k hid)
    obtain ⟨i1, i2⟩ := mt_so2 hf
    subst i1
    subst i2
    exact hfr
  · intro j8 hj9 hf
    by_cases c12 : (60 : Int32) < x4
    · have hf := mt_ifT c12 hf
      exact hj9 hf hfr
    · have hf := mt_ifF c12 hf
      by_cases c13 : 0 ≤ x3
      · have hf := mt_ifT c13 hf
        exact hj9 hf hfr
      · have hf := mt_ifF c13 hf
        refine mt_b2I hf (fun r15 M16 hg14 hf => ?_)
        have hfr : ∀ id k : Nat, ((id ≠ 147 ∨ k ≠ 10) ∧ (id ≠ 147 ∨ k ≠ 11) ∧ (id ≠ 147 ∨ k ≠ 21) ∧ (id ≠ 147 ∨ k ≠ 22) ∧ (id ≠ 147 ∨ k ≠ 8) ∧ (id ≠ 147 ∨ k ≠ 9) ∧ id ≠ 149 ∧ id ≠ 150 ∧ id ≠ 151 ∧ id ≠ 152 ∧ id ≠ 153 ∧ id ≠ 154 ∧ id ≠ 155 ∧ id ≠ 160) → M16 id k = M id k := fun id k hid => (fr_X12_usesOf a1 M5 hg14 id k (by omega)).trans (hfr id k hid)
        refine mt_jn1 hf (fun (v17 : Int32) => (∀ id k : Nat, ((id ≠ 147 ∨ k ≠ 10) ∧ (id ≠ 147 ∨ k ≠ 11) ∧ (id ≠ 147 ∨ k ≠ 21) ∧ (id ≠ 147 ∨ k ≠ 22) ∧ (id ≠ 147 ∨ k ≠ 8) ∧ (id ≠ 147 ∨ k ≠ 9) ∧ id ≠ 149 ∧ id ≠ 150 ∧ id ≠ 151 ∧ id ≠ 152 ∧ id ≠ 153 ∧ id ≠ 154 ∧ id ≠ 155 ∧ id ≠ 160) → M16 id k = M id k) → ∀ id k : Nat, ((id ≠ 147 ∨ k ≠ 10) ∧ (id ≠ 147 ∨ k ≠ 11) ∧ (id ≠ 147 ∨ k ≠ 21) ∧ (id ≠ 147 ∨ k ≠ 22) ∧ (id ≠ 147 ∨ k ≠ 8) ∧ (id ≠ 147 ∨ k ≠ 9) ∧ id ≠ 149 ∧ id ≠ 150 ∧ id ≠ 151 ∧ id ≠ 152 ∧ id ≠ 153 ∧ id ≠ 154 ∧ id ≠ 155 ∧ id ≠ 160) → (M') id k = M id k) ?_ ?_
        · intro v17 hf hfr
          refine mt_ltI hf (fun x20 _ hf => ?_)
          exact ih7 v17 x20 M16 hf hfr
        · intro j18 hj19 hf
          by_cases c21 : r15 ≤ 0
          · have hf := mt_ifT c21 hf
            exact hj19 (-9 : Int32) hf hfr
          · have hf := mt_ifF c21 hf
            exact hj19 x4 hf hfr
set_option maxHeartbeats 4000000 in
set_option maxRecDepth 100000 in
theorem fr_X12_runsOut (a1 : Int32) (M : mt_M) {r : Int32} {M' : mt_M} (hf : f_X12_runsOut a1 M = some (r, M')) : ∀ id k : Nat, ((id ≠ 147 ∨ k ≠ 10) ∧ (id ≠ 147 ∨ k ≠ 11) ∧ (id ≠ 147 ∨ k ≠ 21) ∧ (id ≠ 147 ∨ k ≠ 22) ∧ (id ≠ 147 ∨ k ≠ 8) ∧ (id ≠ 147 ∨ k ≠ 9) ∧ id ≠ 148 ∧ id ≠ 149 ∧ id ≠ 150 ∧ id ≠ 151 ∧ id ≠ 152 ∧ id ≠ 153 ∧ id ≠ 154 ∧ id ≠ 155 ∧ id ≠ 160) → (M') id k = M id k := by
  unfold f_X12_runsOut at hf
  have hfr : ∀ id k : Nat, ((id ≠ 147 ∨ k ≠ 10) ∧ (id ≠ 147 ∨ k ≠ 11) ∧ (id ≠ 147 ∨ k ≠ 21) ∧ (id ≠ 147 ∨ k ≠ 22) ∧ (id ≠ 147 ∨ k ≠ 8) ∧ (id ≠ 147 ∨ k ≠ 9) ∧ id ≠ 148 ∧ id ≠ 149 ∧ id ≠ 150 ∧ id ≠ 151 ∧ id ≠ 152 ∧ id ≠ 153 ∧ id ≠ 154 ∧ id ≠ 155 ∧ id ≠ 160) → M id k = M id k := fun _ _ _ => rfl
  refine mt_b1I hf (fun r2 hg1 hf => ?_)
  by_cases c3 : r2 = 0
  · have hf := mt_ifT c3 hf
    refine mt_b2I hf (fun r5 M6 hg4 hf => ?_)
    have hfr : ∀ id k : Nat, ((id ≠ 147 ∨ k ≠ 10) ∧ (id ≠ 147 ∨ k ≠ 11) ∧ (id ≠ 147 ∨ k ≠ 21) ∧ (id ≠ 147 ∨ k ≠ 22) ∧ (id ≠ 147 ∨ k ≠ 8) ∧ (id ≠ 147 ∨ k ≠ 9) ∧ id ≠ 148 ∧ id ≠ 149 ∧ id ≠ 150 ∧ id ≠ 151 ∧ id ≠ 152 ∧ id ≠ 153 ∧ id ≠ 154 ∧ id ≠ 155 ∧ id ≠ 160) → M6 id k = M id k := fun id k hid => (fr_X12_no (-1 : Int32) M hg4 id k (by omega)).trans (hfr id k hid)
    obtain ⟨i1, i2⟩ := mt_so2 hf
    subst i1
    subst i2
    exact hfr
  · have hf := mt_ifF c3 hf
    refine mt_b2I hf (fun r8 M9 hg7 hf => ?_)
    have hfr : ∀ id k : Nat, ((id ≠ 147 ∨ k ≠ 10) ∧ (id ≠ 147 ∨ k ≠ 11) ∧ (id ≠ 147 ∨ k ≠ 21) ∧ (id ≠ 147 ∨ k ≠ 22) ∧ (id ≠ 147 ∨ k ≠ 8) ∧ (id ≠ 147 ∨ k ≠ 9) ∧ id ≠ 148 ∧ id ≠ 149 ∧ id ≠ 150 ∧ id ≠ 151 ∧ id ≠ 152 ∧ id ≠ 153 ∧ id ≠ 154 ∧ id ≠ 155 ∧ id ≠ 160) → M9 id k = M id k := fun id k hid => (fr_X12_firstLack a1 M hg7 id k (by omega)).trans (hfr id k hid)
    obtain ⟨i1, i2⟩ := mt_so2 hf
    subst i1
    subst i2
    exact hfr
set_option maxHeartbeats 4000000 in
set_option maxRecDepth 100000 in
theorem fr_X12_firstOut (M : mt_M) {r : Int32} {M' : mt_M} (hf : f_X12_firstOut M = some (r, M')) : ∀ id k : Nat, ((id ≠ 147 ∨ k ≠ 10) ∧ (id ≠ 147 ∨ k ≠ 11) ∧ (id ≠ 147 ∨ k ≠ 21) ∧ (id ≠ 147 ∨ k ≠ 22) ∧ (id ≠ 147 ∨ k ≠ 8) ∧ (id ≠ 147 ∨ k ≠ 9) ∧ id ≠ 149 ∧ id ≠ 150 ∧ id ≠ 151 ∧ id ≠ 152 ∧ id ≠ 153 ∧ id ≠ 154 ∧ id ≠ 155 ∧ id ≠ 160) → (M') id k = M id k := by
  unfold f_X12_firstOut at hf
  have hfr : ∀ id k : Nat, ((id ≠ 147 ∨ k ≠ 10) ∧ (id ≠ 147 ∨ k ≠ 11) ∧ (id ≠ 147 ∨ k ≠ 21) ∧ (id ≠ 147 ∨ k ≠ 22) ∧ (id ≠ 147 ∨ k ≠ 8) ∧ (id ≠ 147 ∨ k ≠ 9) ∧ id ≠ 149 ∧ id ≠ 150 ∧ id ≠ 151 ∧ id ≠ 152 ∧ id ≠ 153 ∧ id ≠ 154 ∧ id ≠ 155 ∧ id ≠ 160) → M id k = M id k := fun _ _ _ => rfl
  refine mt_lpI4 hf (fun (x1 : Int32) (x2 : Int32) (x3 : Int32) (M4 : mt_M) => (∀ id k : Nat, ((id ≠ 147 ∨ k ≠ 10) ∧ (id ≠ 147 ∨ k ≠ 11) ∧ (id ≠ 147 ∨ k ≠ 21) ∧ (id ≠ 147 ∨ k ≠ 22) ∧ (id ≠ 147 ∨ k ≠ 8) ∧ (id ≠ 147 ∨ k ≠ 9) ∧ id ≠ 149 ∧ id ≠ 150 ∧ id ≠ 151 ∧ id ≠ 152 ∧ id ≠ 153 ∧ id ≠ 154 ∧ id ≠ 155 ∧ id ≠ 160) → M4 id k = M id k) → ∀ id k : Nat, ((id ≠ 147 ∨ k ≠ 10) ∧ (id ≠ 147 ∨ k ≠ 11) ∧ (id ≠ 147 ∨ k ≠ 21) ∧ (id ≠ 147 ∨ k ≠ 22) ∧ (id ≠ 147 ∨ k ≠ 8) ∧ (id ≠ 147 ∨ k ≠ 9) ∧ id ≠ 149 ∧ id ≠ 150 ∧ id ≠ 151 ∧ id ≠ 152 ∧ id ≠ 153 ∧ id ≠ 154 ∧ id ≠ 155 ∧ id ≠ 160) → (M') id k = M id k) ?_ hfr
  intro k5 ih6 x1 x2 x3 M4 hf hfr
  by_cases c7 : (M4 147 8) ≤ x3
  · have hf := mt_ifT c7 hf
    obtain ⟨i1, i2⟩ := mt_so2 hf
    subst i1
    subst i2
    exact hfr
  · have hf := mt_ifF c7 hf
    refine mt_b2I hf (fun r9 M10 hg8 hf => ?_)
    have hfr : ∀ id k : Nat, ((id ≠ 147 ∨ k ≠ 10) ∧ (id ≠ 147 ∨ k ≠ 11) ∧ (id ≠ 147 ∨ k ≠ 21) ∧ (id ≠ 147 ∨ k ≠ 22) ∧ (id ≠ 147 ∨ k ≠ 8) ∧ (id ≠ 147 ∨ k ≠ 9) ∧ id ≠ 149 ∧ id ≠ 150 ∧ id ≠ 151 ∧ id ≠ 152 ∧ id ≠ 153 ∧ id ≠ 154 ∧ id ≠ 155 ∧ id ≠ 160) → M10 id k = M id k := fun id k hid => (fr_X12_firstLack x3 M4 hg8 id k (by omega)).trans (hfr id k hid)
    refine mt_jn2 hf (fun (x11 : Int32) (x12 : Int32) => (∀ id k : Nat, ((id ≠ 147 ∨ k ≠ 10) ∧ (id ≠ 147 ∨ k ≠ 11) ∧ (id ≠ 147 ∨ k ≠ 21) ∧ (id ≠ 147 ∨ k ≠ 22) ∧ (id ≠ 147 ∨ k ≠ 8) ∧ (id ≠ 147 ∨ k ≠ 9) ∧ id ≠ 149 ∧ id ≠ 150 ∧ id ≠ 151 ∧ id ≠ 152 ∧ id ≠ 153 ∧ id ≠ 154 ∧ id ≠ 155 ∧ id ≠ 160) → M10 id k = M id k) → ∀ id k : Nat, ((id ≠ 147 ∨ k ≠ 10) ∧ (id ≠ 147 ∨ k ≠ 11) ∧ (id ≠ 147 ∨ k ≠ 21) ∧ (id ≠ 147 ∨ k ≠ 22) ∧ (id ≠ 147 ∨ k ≠ 8) ∧ (id ≠ 147 ∨ k ≠ 9) ∧ id ≠ 149 ∧ id ≠ 150 ∧ id ≠ 151 ∧ id ≠ 152 ∧ id ≠ 153 ∧ id ≠ 154 ∧ id ≠ 155 ∧ id ≠ 160) → (M') id k = M id k) ?_ ?_
    · intro x11 x12 hf hfr
      refine mt_ltI hf (fun x15 _ hf => ?_)
      exact ih6 x11 x12 x15 M10 hf hfr
    · intro j13 hj14 hf
      by_cases c16 : r9 < 0
      · have hf := mt_ifT c16 hf
        exact hj14 x1 x2 hf hfr
      · have hf := mt_ifF c16 hf
        by_cases c17 : r9 < x2
        · have hf := mt_ifT c17 hf
          exact hj14 x3 r9 hf hfr
        · have hf := mt_ifF c17 hf
          exact hj14 x1 x2 hf hfr
set_option maxHeartbeats 4000000 in
set_option maxRecDepth 100000 in
theorem fr_X12_suffices (a1 : Int32) (a2 : Int32) (a3 : Int32) (M : mt_M) {r : Int32} {M' : mt_M} (hf : f_X12_suffices a1 a2 a3 M = some (r, M')) : ∀ id k : Nat, ((id ≠ 147 ∨ k ≠ 10) ∧ (id ≠ 147 ∨ k ≠ 11) ∧ (id ≠ 147 ∨ k ≠ 21) ∧ (id ≠ 147 ∨ k ≠ 22) ∧ (id ≠ 147 ∨ k ≠ 8) ∧ (id ≠ 147 ∨ k ≠ 9) ∧ id ≠ 149 ∧ id ≠ 150 ∧ id ≠ 151 ∧ id ≠ 152 ∧ id ≠ 153 ∧ id ≠ 154 ∧ id ≠ 155 ∧ id ≠ 160) → (M') id k = M id k := by
  unfold f_X12_suffices at hf
  have hfr : ∀ id k : Nat, ((id ≠ 147 ∨ k ≠ 10) ∧ (id ≠ 147 ∨ k ≠ 11) ∧ (id ≠ 147 ∨ k ≠ 21) ∧ (id ≠ 147 ∨ k ≠ 22) ∧ (id ≠ 147 ∨ k ≠ 8) ∧ (id ≠ 147 ∨ k ≠ 9) ∧ id ≠ 149 ∧ id ≠ 150 ∧ id ≠ 151 ∧ id ≠ 152 ∧ id ≠ 153 ∧ id ≠ 154 ∧ id ≠ 155 ∧ id ≠ 160) → M id k = M id k := fun _ _ _ => rfl
  refine mt_b1I hf (fun M2 hg1 hf => ?_)
  have hfr : ∀ id k : Nat, ((id ≠ 147 ∨ k ≠ 10) ∧ (id ≠ 147 ∨ k ≠ 11) ∧ (id ≠ 147 ∨ k ≠ 21) ∧ (id ≠ 147 ∨ k ≠ 22) ∧ (id ≠ 147 ∨ k ≠ 8) ∧ (id ≠ 147 ∨ k ≠ 9) ∧ id ≠ 149 ∧ id ≠ 150 ∧ id ≠ 151 ∧ id ≠ 152 ∧ id ≠ 153 ∧ id ≠ 154 ∧ id ≠ 155 ∧ id ≠ 160) → M2 id k = M id k := fun id k hid => (fr_X12_thinks M hg1 id k (by omega)).trans (hfr id k hid)
  refine mt_lpI2 hf (fun (x3 : Int32) (M4 : mt_M) => (∀ id k : Nat, ((id ≠ 147 ∨ k ≠ 10) ∧ (id ≠ 147 ∨ k ≠ 11) ∧ (id ≠ 147 ∨ k ≠ 21) ∧ (id ≠ 147 ∨ k ≠ 22) ∧ (id ≠ 147 ∨ k ≠ 8) ∧ (id ≠ 147 ∨ k ≠ 9) ∧ id ≠ 149 ∧ id ≠ 150 ∧ id ≠ 151 ∧ id ≠ 152 ∧ id ≠ 153 ∧ id ≠ 154 ∧ id ≠ 155 ∧ id ≠ 160) → M4 id k = M id k) → ∀ id k : Nat, ((id ≠ 147 ∨ k ≠ 10) ∧ (id ≠ 147 ∨ k ≠ 11) ∧ (id ≠ 147 ∨ k ≠ 21) ∧ (id ≠ 147 ∨ k ≠ 22) ∧ (id ≠ 147 ∨ k ≠ 8) ∧ (id ≠ 147 ∨ k ≠ 9) ∧ id ≠ 149 ∧ id ≠ 150 ∧ id ≠ 151 ∧ id ≠ 152 ∧ id ≠ 153 ∧ id ≠ 154 ∧ id ≠ 155 ∧ id ≠ 160) → (M') id k = M id k) ?_ hfr
  intro k5 ih6 x3 M4 hf hfr
  by_cases c7 : a2 ≤ x3
  · have hf := mt_ifT c7 hf
    refine mt_lpI3 hf (fun (x8 : Int32) (x9 : Int32) (M10 : mt_M) => (∀ id k : Nat, ((id ≠ 147 ∨ k ≠ 10) ∧ (id ≠ 147 ∨ k ≠ 11) ∧ (id ≠ 147 ∨ k ≠ 21) ∧ (id ≠ 147 ∨ k ≠ 22) ∧ (id ≠ 147 ∨ k ≠ 8) ∧ (id ≠ 147 ∨ k ≠ 9) ∧ id ≠ 149 ∧ id ≠ 150 ∧ id ≠ 151 ∧ id ≠ 152 ∧ id ≠ 153 ∧ id ≠ 154 ∧ id ≠ 155 ∧ id ≠ 160) → M10 id k = M id k) → ∀ id k : Nat, ((id ≠ 147 ∨ k ≠ 10) ∧ (id ≠ 147 ∨ k ≠ 11) ∧ (id ≠ 147 ∨ k ≠ 21) ∧ (id ≠ 147 ∨ k ≠ 22) ∧ (id ≠ 147 ∨ k ≠ 8) ∧ (id ≠ 147 ∨ k ≠ 9) ∧ id ≠ 149 ∧ id ≠ 150 ∧ id ≠ 151 ∧ id ≠ 152 ∧ id ≠ 153 ∧ id ≠ 154 ∧ id ≠ 155 ∧ id ≠ 160) → (M') id k = M id k) ?_ hfr
    intro k11 ih12 x8 x9 M10 hf hfr
    refine mt_jn0 hf ((∀ id k : Nat, ((id ≠ 147 ∨ k ≠ 10) ∧ (id ≠ 147 ∨ k ≠ 11) ∧ (id ≠ 147 ∨ k ≠ 21) ∧ (id ≠ 147 ∨ k ≠ 22) ∧ (id ≠ 147 ∨ k ≠ 8) ∧ (id ≠ 147 ∨ k ≠ 9) ∧ id ≠ 149 ∧ id ≠ 150 ∧ id ≠ 151 ∧ id ≠ 152 ∧ id ≠ 153 ∧ id ≠ 154 ∧ id ≠ 155 ∧ id ≠ 160) → M10 id k = M id k) → ∀ id k : Nat, ((id ≠ 147 ∨ k ≠ 10) ∧ (id ≠ 147 ∨ k ≠ 11) ∧ (id ≠ 147 ∨ k ≠ 21) ∧ (id ≠ 147 ∨ k ≠ 22) ∧ (id ≠ 147 ∨ k ≠ 8) ∧ (id ≠ 147 ∨ k ≠ 9) ∧ id ≠ 149 ∧ id ≠ 150 ∧ id ≠ 151 ∧ id ≠ 152 ∧ id ≠ 153 ∧ id ≠ 154 ∧ id ≠ 155 ∧ id ≠ 160) → (M') id k = M id k) ?_ ?_
    · intro hf hfr
      refine mt_b1I hf (fun M16 hg15 hf => ?_)
      have hfr : ∀ id k : Nat, ((id ≠ 147 ∨ k ≠ 10) ∧ (id ≠ 147 ∨ k ≠ 11) ∧ (id ≠ 147 ∨ k ≠ 21) ∧ (id ≠ 147 ∨ k ≠ 22) ∧ (id ≠ 147 ∨ k ≠ 8) ∧ (id ≠ 147 ∨ k ≠ 9) ∧ id ≠ 149 ∧ id ≠ 150 ∧ id ≠ 151 ∧ id ≠ 152 ∧ id ≠ 153 ∧ id ≠ 154 ∧ id ≠ 155 ∧ id ≠ 160) → M16 id k = M id k := fun id k hid => (fr_X12_forgets M10 hg15 id k (by omega)).trans (hfr id k hid)
      refine mt_ckI hf (fun _ hf => ?_)
      obtain ⟨i1, i2⟩ := mt_so2 hf
      subst i1
      subst i2
      exact hfr
    · intro j13 hj14 hf
      by_cases c18 : a3 ≤ x9
      · have hf := mt_ifT c18 hf
        exact hj14 hf hfr
      · have hf := mt_ifF c18 hf
        by_cases c19 : x8 = 0
        · have hf := mt_ifT c19 hf
          exact hj14 hf hfr
        · have hf := mt_ifF c19 hf
          refine mt_b2I hf (fun r21 M22 hg20 hf => ?_)
          have hfr : ∀ id k : Nat, ((id ≠ 147 ∨ k ≠ 10) ∧ (id ≠ 147 ∨ k ≠ 11) ∧ (id ≠ 147 ∨ k ≠ 21) ∧ (id ≠ 147 ∨ k ≠ 22) ∧ (id ≠ 147 ∨ k ≠ 8) ∧ (id ≠ 147 ∨ k ≠ 9) ∧ id ≠ 149 ∧ id ≠ 150 ∧ id ≠ 151 ∧ id ≠ 152 ∧ id ≠ 153 ∧ id ≠ 154 ∧ id ≠ 155 ∧ id ≠ 160) → M22 id k = M id k := fun id k hid => (fr_X12_usesOf a1 M10 hg20 id k (by omega)).trans (hfr id k hid)
          refine mt_jn1 hf (fun (v23 : Int32) => (∀ id k : Nat, ((id ≠ 147 ∨ k ≠ 10) ∧ (id ≠ 147 ∨ k ≠ 11) ∧ (id ≠ 147 ∨ k ≠ 21) ∧ (id ≠ 147 ∨ k ≠ 22) ∧ (id ≠ 147 ∨ k ≠ 8) ∧ (id ≠ 147 ∨ k ≠ 9) ∧ id ≠ 149 ∧ id ≠ 150 ∧ id ≠ 151 ∧ id ≠ 152 ∧ id ≠ 153 ∧ id ≠ 154 ∧ id ≠ 155 ∧ id ≠ 160) → M22 id k = M id k) → ∀ id k : Nat, ((id ≠ 147 ∨ k ≠ 10) ∧ (id ≠ 147 ∨ k ≠ 11) ∧ (id ≠ 147 ∨ k ≠ 21) ∧ (id ≠ 147 ∨ k ≠ 22) ∧ (id ≠ 147 ∨ k ≠ 8) ∧ (id ≠ 147 ∨ k ≠ 9) ∧ id ≠ 149 ∧ id ≠ 150 ∧ id ≠ 151 ∧ id ≠ 152 ∧ id ≠ 153 ∧ id ≠ 154 ∧ id ≠ 155 ∧ id ≠ 160) → (M') id k = M id k) ?_ ?_
          · intro v23 hf hfr
            refine mt_ltI hf (fun x26 _ hf => ?_)
            exact ih12 v23 x26 M22 hf hfr
          · intro j24 hj25 hf
            by_cases c27 : r21 = 0
            · have hf := mt_ifT c27 hf
              exact hj25 (1 : Int32) hf hfr
            · have hf := mt_ifF c27 hf
              exact hj25 (0 : Int32) hf hfr
  · have hf := mt_ifF c7 hf
    refine mt_b1I hf (fun M29 hg28 hf => ?_)
    have hfr : ∀ id k : Nat, ((id ≠ 147 ∨ k ≠ 10) ∧ (id ≠ 147 ∨ k ≠ 11) ∧ (id ≠ 147 ∨ k ≠ 21) ∧ (id ≠ 147 ∨ k ≠ 22) ∧ (id ≠ 147 ∨ k ≠ 8) ∧ (id ≠ 147 ∨ k ≠ 9) ∧ id ≠ 149 ∧ id ≠ 150 ∧ id ≠ 151 ∧ id ≠ 152 ∧ id ≠ 153 ∧ id ≠ 154 ∧ id ≠ 155 ∧ id ≠ 160) → M29 id k = M id k := fun id k hid => (fr_X12_gets a1 M4 hg28 id k (by omega)).trans (hfr id k hid)
    refine mt_ltI hf (fun x30 _ hf => ?_)
    exact ih6 x30 M29 hf hfr
set_option maxHeartbeats 4000000 in
set_option maxRecDepth 100000 in
theorem fr_X12_packsFor (a1 : Int32) (a2 : Int32) (M : mt_M) {r : Int32} {M' : mt_M} (hf : f_X12_packsFor a1 a2 M = some (r, M')) : ∀ id k : Nat, ((id ≠ 147 ∨ k ≠ 10) ∧ (id ≠ 147 ∨ k ≠ 11) ∧ (id ≠ 147 ∨ k ≠ 21) ∧ (id ≠ 147 ∨ k ≠ 22) ∧ (id ≠ 147 ∨ k ≠ 8) ∧ (id ≠ 147 ∨ k ≠ 9) ∧ id ≠ 149 ∧ id ≠ 150 ∧ id ≠ 151 ∧ id ≠ 152 ∧ id ≠ 153 ∧ id ≠ 154 ∧ id ≠ 155 ∧ id ≠ 160) → (M') id k = M id k := by
  unfold f_X12_packsFor at hf
  have hfr : ∀ id k : Nat, ((id ≠ 147 ∨ k ≠ 10) ∧ (id ≠ 147 ∨ k ≠ 11) ∧ (id ≠ 147 ∨ k ≠ 21) ∧ (id ≠ 147 ∨ k ≠ 22) ∧ (id ≠ 147 ∨ k ≠ 8) ∧ (id ≠ 147 ∨ k ≠ 9) ∧ id ≠ 149 ∧ id ≠ 150 ∧ id ≠ 151 ∧ id ≠ 152 ∧ id ≠ 153 ∧ id ≠ 154 ∧ id ≠ 155 ∧ id ≠ 160) → M id k = M id k := fun _ _ _ => rfl
  refine mt_lpI2 hf (fun (x1 : Int32) (M2 : mt_M) => (∀ id k : Nat, ((id ≠ 147 ∨ k ≠ 10) ∧ (id ≠ 147 ∨ k ≠ 11) ∧ (id ≠ 147 ∨ k ≠ 21) ∧ (id ≠ 147 ∨ k ≠ 22) ∧ (id ≠ 147 ∨ k ≠ 8) ∧ (id ≠ 147 ∨ k ≠ 9) ∧ id ≠ 149 ∧ id ≠ 150 ∧ id ≠ 151 ∧ id ≠ 152 ∧ id ≠ 153 ∧ id ≠ 154 ∧ id ≠ 155 ∧ id ≠ 160) → M2 id k = M id k) → ∀ id k : Nat, ((id ≠ 147 ∨ k ≠ 10) ∧ (id ≠ 147 ∨ k ≠ 11) ∧ (id ≠ 147 ∨ k ≠ 21) ∧ (id ≠ 147 ∨ k ≠ 22) ∧ (id ≠ 147 ∨ k ≠ 8) ∧ (id ≠ 147 ∨ k ≠ 9) ∧ id ≠ 149 ∧ id ≠ 150 ∧ id ≠ 151 ∧ id ≠ 152 ∧ id ≠ 153 ∧ id ≠ 154 ∧ id ≠ 155 ∧ id ≠ 160) → (M') id k = M id k) ?_ hfr
  intro k3 ih4 x1 M2 hf hfr
  by_cases c5 : (20 : Int32) < x1
  · have hf := mt_ifT c5 hf
    obtain ⟨i1, i2⟩ := mt_so2 hf
    subst i1
    subst i2
    exact hfr
  · have hf := mt_ifF c5 hf
    refine mt_b2I hf (fun r7 M8 hg6 hf => ?_)
    have hfr : ∀ id k : Nat, ((id ≠ 147 ∨ k ≠ 10) ∧ (id ≠ 147 ∨ k ≠ 11) ∧ (id ≠ 147 ∨ k ≠ 21) ∧ (id ≠ 147 ∨ k ≠ 22) ∧ (id ≠ 147 ∨ k ≠ 8) ∧ (id ≠ 147 ∨ k ≠ 9) ∧ id ≠ 149 ∧ id ≠ 150 ∧ id ≠ 151 ∧ id ≠ 152 ∧ id ≠ 153 ∧ id ≠ 154 ∧ id ≠ 155 ∧ id ≠ 160) → M8 id k = M id k := fun id k hid => (fr_X12_suffices a1 x1 a2 M2 hg6 id k (by omega)).trans (hfr id k hid)
    by_cases c9 : r7 = 0
    · have hf := mt_ifT c9 hf
      refine mt_ltI hf (fun x10 _ hf => ?_)
      exact ih4 x10 M8 hf hfr
    · have hf := mt_ifF c9 hf
      obtain ⟨i1, i2⟩ := mt_so2 hf
      subst i1
      subst i2
      exact hfr
set_option maxHeartbeats 4000000 in
set_option maxRecDepth 100000 in
theorem fr_X12_buyFor (a1 : Int32) (a2 : Int32) (M : mt_M) {r : Int32} {M' : mt_M} (hf : f_X12_buyFor a1 a2 M = some (r, M')) : ∀ id k : Nat, ((id ≠ 147 ∨ k ≠ 10) ∧ (id ≠ 147 ∨ k ≠ 11) ∧ (id ≠ 147 ∨ k ≠ 21) ∧ (id ≠ 147 ∨ k ≠ 22) ∧ (id ≠ 147 ∨ k ≠ 8) ∧ (id ≠ 147 ∨ k ≠ 9) ∧ id ≠ 148 ∧ id ≠ 149 ∧ id ≠ 150 ∧ id ≠ 151 ∧ id ≠ 152 ∧ id ≠ 153 ∧ id ≠ 154 ∧ id ≠ 155 ∧ id ≠ 160) → (M') id k = M id k := by
  unfold f_X12_buyFor at hf
  have hfr : ∀ id k : Nat, ((id ≠ 147 ∨ k ≠ 10) ∧ (id ≠ 147 ∨ k ≠ 11) ∧ (id ≠ 147 ∨ k ≠ 21) ∧ (id ≠ 147 ∨ k ≠ 22) ∧ (id ≠ 147 ∨ k ≠ 8) ∧ (id ≠ 147 ∨ k ≠ 9) ∧ id ≠ 148 ∧ id ≠ 149 ∧ id ≠ 150 ∧ id ≠ 151 ∧ id ≠ 152 ∧ id ≠ 153 ∧ id ≠ 154 ∧ id ≠ 155 ∧ id ≠ 160) → M id k = M id k := fun _ _ _ => rfl
  refine mt_jn1 hf (fun (v1 : Int32) => (∀ id k : Nat, ((id ≠ 147 ∨ k ≠ 10) ∧ (id ≠ 147 ∨ k ≠ 11) ∧ (id ≠ 147 ∨ k ≠ 21) ∧ (id ≠ 147 ∨ k ≠ 22) ∧ (id ≠ 147 ∨ k ≠ 8) ∧ (id ≠ 147 ∨ k ≠ 9) ∧ id ≠ 148 ∧ id ≠ 149 ∧ id ≠ 150 ∧ id ≠ 151 ∧ id ≠ 152 ∧ id ≠ 153 ∧ id ≠ 154 ∧ id ≠ 155 ∧ id ≠ 160) → M id k = M id k) → ∀ id k : Nat, ((id ≠ 147 ∨ k ≠ 10) ∧ (id ≠ 147 ∨ k ≠ 11) ∧ (id ≠ 147 ∨ k ≠ 21) ∧ (id ≠ 147 ∨ k ≠ 22) ∧ (id ≠ 147 ∨ k ≠ 8) ∧ (id ≠ 147 ∨ k ≠ 9) ∧ id ≠ 148 ∧ id ≠ 149 ∧ id ≠ 150 ∧ id ≠ 151 ∧ id ≠ 152 ∧ id ≠ 153 ∧ id ≠ 154 ∧ id ≠ 155 ∧ id ≠ 160) → (M') id k = M id k) ?_ ?_
  · intro v1 hf hfr
    by_cases c4 : v1 = 0
    · have hf := mt_ifT c4 hf
      by_cases c5 : a1 < 0
      · have hf := mt_ifT c5 hf
        refine mt_lpI3 hf (fun (x6 : Int32) (x7 : Int32) (M8 : mt_M) => (∀ id k : Nat, ((id ≠ 147 ∨ k ≠ 10) ∧ (id ≠ 147 ∨ k ≠ 11) ∧ (id ≠ 147 ∨ k ≠ 21) ∧ (id ≠ 147 ∨ k ≠ 22) ∧ (id ≠ 147 ∨ k ≠ 8) ∧ (id ≠ 147 ∨ k ≠ 9) ∧ id ≠ 148 ∧ id ≠ 149 ∧ id ≠ 150 ∧ id ≠ 151 ∧ id ≠ 152 ∧ id ≠ 153 ∧ id ≠ 154 ∧ id ≠ 155 ∧ id ≠ 160) → M8 id k = M id k) → ∀ id k : Nat, ((id ≠ 147 ∨ k ≠ 10) ∧ (id ≠ 147 ∨ k ≠ 11) ∧ (id ≠ 147 ∨ k ≠ 21) ∧ (id ≠ 147 ∨ k ≠ 22) ∧ (id ≠ 147 ∨ k ≠ 8) ∧ (id ≠ 147 ∨ k ≠ 9) ∧ id ≠ 148 ∧ id ≠ 149 ∧ id ≠ 150 ∧ id ≠ 151 ∧ id ≠ 152 ∧ id ≠ 153 ∧ id ≠ 154 ∧ id ≠ 155 ∧ id ≠ 160) → (M') id k = M id k) ?_ hfr
        intro k9 ih10 x6 x7 M8 hf hfr
        by_cases c11 : (M8 147 8) ≤ x7
        · have hf := mt_ifT c11 hf
          obtain ⟨i1, i2⟩ := mt_so2 hf
          subst i1
          subst i2
          exact hfr
        · have hf := mt_ifF c11 hf
          refine mt_b2I hf (fun r13 M14 hg12 hf => ?_)
          have hfr : ∀ id k : Nat, ((id ≠ 147 ∨ k ≠ 10) ∧ (id ≠ 147 ∨ k ≠ 11) ∧ (id ≠ 147 ∨ k ≠ 21) ∧ (id ≠ 147 ∨ k ≠ 22) ∧ (id ≠ 147 ∨ k ≠ 8) ∧ (id ≠ 147 ∨ k ≠ 9) ∧ id ≠ 148 ∧ id ≠ 149 ∧ id ≠ 150 ∧ id ≠ 151 ∧ id ≠ 152 ∧ id ≠ 153 ∧ id ≠ 154 ∧ id ≠ 155 ∧ id ≠ 160) → M14 id k = M id k := fun id k hid => (fr_X12_packsFor x7 a2 M8 hg12 id k (by omega)).trans (hfr id k hid)
          refine mt_jn2 hf (fun (v15 : Int32) (M16 : mt_M) => (∀ id k : Nat, ((id ≠ 147 ∨ k ≠ 10) ∧ (id ≠ 147 ∨ k ≠ 11) ∧ (id ≠ 147 ∨ k ≠ 21) ∧ (id ≠ 147 ∨ k ≠ 22) ∧ (id ≠ 147 ∨ k ≠ 8) ∧ (id ≠ 147 ∨ k ≠ 9) ∧ id ≠ 148 ∧ id ≠ 149 ∧ id ≠ 150 ∧ id ≠ 151 ∧ id ≠ 152 ∧ id ≠ 153 ∧ id ≠ 154 ∧ id ≠ 155 ∧ id ≠ 160) → M16 id k = M id k) → ∀ id k : Nat, ((id ≠ 147 ∨ k ≠ 10) ∧ (id ≠ 147 ∨ k ≠ 11) ∧ (id ≠ 147 ∨ k ≠ 21) ∧ (id ≠ 147 ∨ k ≠ 22) ∧ (id ≠ 147 ∨ k ≠ 8) ∧ (id ≠ 147 ∨ k ≠ 9) ∧ id ≠ 148 ∧ id ≠ 149 ∧ id ≠ 150 ∧ id ≠ 151 ∧ id ≠ 152 ∧ id ≠ 153 ∧ id ≠ 154 ∧ id ≠ 155 ∧ id ≠ 160) → (M') id k = M id k) ?_ ?_
          · intro v15 M16 hf hfr
            refine mt_ltI hf (fun x19 _ hf => ?_)
            refine mt_ltI hf (fun x20 _ hf => ?_)
            exact ih10 x19 x20 M16 hf hfr
          · intro j17 hj18 hf
            by_cases c21 : r13 = (99 : Int32)
            · have hf := mt_ifT c21 hf
              exact hj18 (0 : Int32) M14 hf hfr
            · have hf := mt_ifF c21 hf
              refine mt_b2I hf (fun r23 M24 hg22 hf => ?_)
              have hfr : ∀ id k : Nat, ((id ≠ 147 ∨ k ≠ 10) ∧ (id ≠ 147 ∨ k ≠ 11) ∧ (id ≠ 147 ∨ k ≠ 21) ∧ (id ≠ 147 ∨ k ≠ 22) ∧ (id ≠ 147 ∨ k ≠ 8) ∧ (id ≠ 147 ∨ k ≠ 9) ∧ id ≠ 148 ∧ id ≠ 149 ∧ id ≠ 150 ∧ id ≠ 151 ∧ id ≠ 152 ∧ id ≠ 153 ∧ id ≠ 154 ∧ id ≠ 155 ∧ id ≠ 160) → M24 id k = M id k := fun id k hid => (fr_X12_packsFor x7 a2 M14 hg22 id k (by omega)).trans (hfr id k hid)
              refine mt_b1I hf (fun r26 hg25 hf => ?_)
              exact hj18 (r23 * r26) M24 hf hfr
      · have hf := mt_ifF c5 hf
        refine mt_b2I hf (fun r28 M29 hg27 hf => ?_)
        have hfr : ∀ id k : Nat, ((id ≠ 147 ∨ k ≠ 10) ∧ (id ≠ 147 ∨ k ≠ 11) ∧ (id ≠ 147 ∨ k ≠ 21) ∧ (id ≠ 147 ∨ k ≠ 22) ∧ (id ≠ 147 ∨ k ≠ 8) ∧ (id ≠ 147 ∨ k ≠ 9) ∧ id ≠ 148 ∧ id ≠ 149 ∧ id ≠ 150 ∧ id ≠ 151 ∧ id ≠ 152 ∧ id ≠ 153 ∧ id ≠ 154 ∧ id ≠ 155 ∧ id ≠ 160) → M29 id k = M id k := fun id k hid => (fr_X12_packsFor a1 a2 M hg27 id k (by omega)).trans (hfr id k hid)
        obtain ⟨i1, i2⟩ := mt_so2 hf
        subst i1
        subst i2
        exact hfr
    · have hf := mt_ifF c4 hf
      refine mt_b2I hf (fun r31 M32 hg30 hf => ?_)
      have hfr : ∀ id k : Nat, ((id ≠ 147 ∨ k ≠ 10) ∧ (id ≠ 147 ∨ k ≠ 11) ∧ (id ≠ 147 ∨ k ≠ 21) ∧ (id ≠ 147 ∨ k ≠ 22) ∧ (id ≠ 147 ∨ k ≠ 8) ∧ (id ≠ 147 ∨ k ≠ 9) ∧ id ≠ 148 ∧ id ≠ 149 ∧ id ≠ 150 ∧ id ≠ 151 ∧ id ≠ 152 ∧ id ≠ 153 ∧ id ≠ 154 ∧ id ≠ 155 ∧ id ≠ 160) → M32 id k = M id k := fun id k hid => (fr_X12_no v1 M hg30 id k (by omega)).trans (hfr id k hid)
      obtain ⟨i1, i2⟩ := mt_so2 hf
      subst i1
      subst i2
      exact hfr
  · intro j2 hj3 hf
    refine mt_jn0 hf ((∀ id k : Nat, ((id ≠ 147 ∨ k ≠ 10) ∧ (id ≠ 147 ∨ k ≠ 11) ∧ (id ≠ 147 ∨ k ≠ 21) ∧ (id ≠ 147 ∨ k ≠ 22) ∧ (id ≠ 147 ∨ k ≠ 8) ∧ (id ≠ 147 ∨ k ≠ 9) ∧ id ≠ 148 ∧ id ≠ 149 ∧ id ≠ 150 ∧ id ≠ 151 ∧ id ≠ 152 ∧ id ≠ 153 ∧ id ≠ 154 ∧ id ≠ 155 ∧ id ≠ 160) → M id k = M id k) → ∀ id k : Nat, ((id ≠ 147 ∨ k ≠ 10) ∧ (id ≠ 147 ∨ k ≠ 11) ∧ (id ≠ 147 ∨ k ≠ 21) ∧ (id ≠ 147 ∨ k ≠ 22) ∧ (id ≠ 147 ∨ k ≠ 8) ∧ (id ≠ 147 ∨ k ≠ 9) ∧ id ≠ 148 ∧ id ≠ 149 ∧ id ≠ 150 ∧ id ≠ 151 ∧ id ≠ 152 ∧ id ≠ 153 ∧ id ≠ 154 ∧ id ≠ 155 ∧ id ≠ 160) → (M') id k = M id k) ?_ ?_
    · intro hf hfr
      refine mt_b1I hf (fun r36 hg35 hf => ?_)
      exact hj3 r36 hf hfr
    · intro j33 hj34 hf
      by_cases c37 : a1 = (-1 : Int32)
      · have hf := mt_ifT c37 hf
        exact hj34 hf hfr
      · have hf := mt_ifF c37 hf
        refine mt_b1I hf (fun r39 hg38 hf => ?_)
        by_cases c40 : r39 = 0
        · have hf := mt_ifT c40 hf
          exact hj3 (-1 : Int32) hf hfr
        · have hf := mt_ifF c40 hf
          exact hj34 hf hfr
set_option maxHeartbeats 4000000 in
set_option maxRecDepth 100000 in
theorem fr_X12_lackingWith (a1 : Int32) (M : mt_M) {r : Int32} {M' : mt_M} (hf : f_X12_lackingWith a1 M = some (r, M')) : ∀ id k : Nat, ((id ≠ 147 ∨ k ≠ 10) ∧ (id ≠ 147 ∨ k ≠ 11) ∧ (id ≠ 147 ∨ k ≠ 21) ∧ (id ≠ 147 ∨ k ≠ 22) ∧ (id ≠ 147 ∨ k ≠ 24) ∧ (id ≠ 147 ∨ k ≠ 8) ∧ (id ≠ 147 ∨ k ≠ 9) ∧ id ≠ 149 ∧ id ≠ 150 ∧ id ≠ 151 ∧ id ≠ 152 ∧ id ≠ 153 ∧ id ≠ 154 ∧ id ≠ 155 ∧ id ≠ 160) → (M') id k = M id k := by
  unfold f_X12_lackingWith at hf
  have hfr : ∀ id k : Nat, ((id ≠ 147 ∨ k ≠ 10) ∧ (id ≠ 147 ∨ k ≠ 11) ∧ (id ≠ 147 ∨ k ≠ 21) ∧ (id ≠ 147 ∨ k ≠ 22) ∧ (id ≠ 147 ∨ k ≠ 24) ∧ (id ≠ 147 ∨ k ≠ 8) ∧ (id ≠ 147 ∨ k ≠ 9) ∧ id ≠ 149 ∧ id ≠ 150 ∧ id ≠ 151 ∧ id ≠ 152 ∧ id ≠ 153 ∧ id ≠ 154 ∧ id ≠ 155 ∧ id ≠ 160) → M id k = M id k := fun _ _ _ => rfl
  refine mt_b1I hf (fun M2 hg1 hf => ?_)
  have hfr : ∀ id k : Nat, ((id ≠ 147 ∨ k ≠ 10) ∧ (id ≠ 147 ∨ k ≠ 11) ∧ (id ≠ 147 ∨ k ≠ 21) ∧ (id ≠ 147 ∨ k ≠ 22) ∧ (id ≠ 147 ∨ k ≠ 24) ∧ (id ≠ 147 ∨ k ≠ 8) ∧ (id ≠ 147 ∨ k ≠ 9) ∧ id ≠ 149 ∧ id ≠ 150 ∧ id ≠ 151 ∧ id ≠ 152 ∧ id ≠ 153 ∧ id ≠ 154 ∧ id ≠ 155 ∧ id ≠ 160) → M2 id k = M id k := fun id k hid => (fr_X12_passesAll (1 : Int32) (1 : Int32) M hg1 id k (by omega)).trans (hfr id k hid)
  refine mt_lpI2 hf (fun (x3 : Int32) (M4 : mt_M) => (∀ id k : Nat, ((id ≠ 147 ∨ k ≠ 10) ∧ (id ≠ 147 ∨ k ≠ 11) ∧ (id ≠ 147 ∨ k ≠ 21) ∧ (id ≠ 147 ∨ k ≠ 22) ∧ (id ≠ 147 ∨ k ≠ 24) ∧ (id ≠ 147 ∨ k ≠ 8) ∧ (id ≠ 147 ∨ k ≠ 9) ∧ id ≠ 149 ∧ id ≠ 150 ∧ id ≠ 151 ∧ id ≠ 152 ∧ id ≠ 153 ∧ id ≠ 154 ∧ id ≠ 155 ∧ id ≠ 160) → M4 id k = M id k) → ∀ id k : Nat, ((id ≠ 147 ∨ k ≠ 10) ∧ (id ≠ 147 ∨ k ≠ 11) ∧ (id ≠ 147 ∨ k ≠ 21) ∧ (id ≠ 147 ∨ k ≠ 22) ∧ (id ≠ 147 ∨ k ≠ 24) ∧ (id ≠ 147 ∨ k ≠ 8) ∧ (id ≠ 147 ∨ k ≠ 9) ∧ id ≠ 149 ∧ id ≠ 150 ∧ id ≠ 151 ∧ id ≠ 152 ∧ id ≠ 153 ∧ id ≠ 154 ∧ id ≠ 155 ∧ id ≠ 160) → (M') id k = M id k) ?_ hfr
  intro k5 ih6 x3 M4 hf hfr
  by_cases c7 : (M4 147 8) ≤ x3
  · have hf := mt_ifT c7 hf
    refine mt_b2I hf (fun r9 M10 hg8 hf => ?_)
    have hfr : ∀ id k : Nat, ((id ≠ 147 ∨ k ≠ 10) ∧ (id ≠ 147 ∨ k ≠ 11) ∧ (id ≠ 147 ∨ k ≠ 21) ∧ (id ≠ 147 ∨ k ≠ 22) ∧ (id ≠ 147 ∨ k ≠ 24) ∧ (id ≠ 147 ∨ k ≠ 8) ∧ (id ≠ 147 ∨ k ≠ 9) ∧ id ≠ 149 ∧ id ≠ 150 ∧ id ≠ 151 ∧ id ≠ 152 ∧ id ≠ 153 ∧ id ≠ 154 ∧ id ≠ 155 ∧ id ≠ 160) → M10 id k = M id k := fun id k hid => (fr_X12_lackingIn (7 : Int32) M4 hg8 id k (by omega)).trans (hfr id k hid)
    refine mt_b1I hf (fun M12 hg11 hf => ?_)
    have hfr : ∀ id k : Nat, ((id ≠ 147 ∨ k ≠ 10) ∧ (id ≠ 147 ∨ k ≠ 11) ∧ (id ≠ 147 ∨ k ≠ 21) ∧ (id ≠ 147 ∨ k ≠ 22) ∧ (id ≠ 147 ∨ k ≠ 24) ∧ (id ≠ 147 ∨ k ≠ 8) ∧ (id ≠ 147 ∨ k ≠ 9) ∧ id ≠ 149 ∧ id ≠ 150 ∧ id ≠ 151 ∧ id ≠ 152 ∧ id ≠ 153 ∧ id ≠ 154 ∧ id ≠ 155 ∧ id ≠ 160) → M12 id k = M id k := fun id k hid => (fr_X12_passesAll (1 : Int32) (0 : Int32) M10 hg11 id k (by omega)).trans (hfr id k hid)
    obtain ⟨i1, i2⟩ := mt_so2 hf
    subst i1
    subst i2
    exact hfr
  · have hf := mt_ifF c7 hf
    refine mt_b1I hf (fun r14 hg13 hf => ?_)
    refine mt_jn1 hf (fun (M15 : mt_M) => (∀ id k : Nat, ((id ≠ 147 ∨ k ≠ 10) ∧ (id ≠ 147 ∨ k ≠ 11) ∧ (id ≠ 147 ∨ k ≠ 21) ∧ (id ≠ 147 ∨ k ≠ 22) ∧ (id ≠ 147 ∨ k ≠ 24) ∧ (id ≠ 147 ∨ k ≠ 8) ∧ (id ≠ 147 ∨ k ≠ 9) ∧ id ≠ 149 ∧ id ≠ 150 ∧ id ≠ 151 ∧ id ≠ 152 ∧ id ≠ 153 ∧ id ≠ 154 ∧ id ≠ 155 ∧ id ≠ 160) → M15 id k = M id k) → ∀ id k : Nat, ((id ≠ 147 ∨ k ≠ 10) ∧ (id ≠ 147 ∨ k ≠ 11) ∧ (id ≠ 147 ∨ k ≠ 21) ∧ (id ≠ 147 ∨ k ≠ 22) ∧ (id ≠ 147 ∨ k ≠ 24) ∧ (id ≠ 147 ∨ k ≠ 8) ∧ (id ≠ 147 ∨ k ≠ 9) ∧ id ≠ 149 ∧ id ≠ 150 ∧ id ≠ 151 ∧ id ≠ 152 ∧ id ≠ 153 ∧ id ≠ 154 ∧ id ≠ 155 ∧ id ≠ 160) → (M') id k = M id k) ?_ ?_
    · intro M15 hf hfr
      refine mt_ltI hf (fun x18 _ hf => ?_)
      exact ih6 x18 M15 hf hfr
    · intro j16 hj17 hf
      by_cases c19 : r14 = 0
      · have hf := mt_ifT c19 hf
        exact hj17 M4 hf hfr
      · have hf := mt_ifF c19 hf
        refine mt_b1I hf (fun M21 hg20 hf => ?_)
        have hfr : ∀ id k : Nat, ((id ≠ 147 ∨ k ≠ 10) ∧ (id ≠ 147 ∨ k ≠ 11) ∧ (id ≠ 147 ∨ k ≠ 21) ∧ (id ≠ 147 ∨ k ≠ 22) ∧ (id ≠ 147 ∨ k ≠ 24) ∧ (id ≠ 147 ∨ k ≠ 8) ∧ (id ≠ 147 ∨ k ≠ 9) ∧ id ≠ 149 ∧ id ≠ 150 ∧ id ≠ 151 ∧ id ≠ 152 ∧ id ≠ 153 ∧ id ≠ 154 ∧ id ≠ 155 ∧ id ≠ 160) → M21 id k = M id k := fun id k hid => (fr_X12_gets x3 M4 hg20 id k (by omega)).trans (hfr id k hid)
        exact hj17 M21 hf hfr
set_option maxHeartbeats 4000000 in
set_option maxRecDepth 100000 in
theorem fr_X12_order (a1 : Int32) (a2 : Int32) (M : mt_M) {r : Int32} {M' : mt_M} (hf : f_X12_order a1 a2 M = some (r, M')) : ∀ id k : Nat, ((id ≠ 147 ∨ k ≠ 10) ∧ (id ≠ 147 ∨ k ≠ 11) ∧ (id ≠ 147 ∨ k ≠ 21) ∧ (id ≠ 147 ∨ k ≠ 22) ∧ (id ≠ 147 ∨ k ≠ 24) ∧ (id ≠ 147 ∨ k ≠ 8) ∧ (id ≠ 147 ∨ k ≠ 9) ∧ id ≠ 148 ∧ id ≠ 149 ∧ id ≠ 150 ∧ id ≠ 151 ∧ id ≠ 152 ∧ id ≠ 153 ∧ id ≠ 154 ∧ id ≠ 155 ∧ id ≠ 160) → (M') id k = M id k := by
  unfold f_X12_order at hf
  have hfr : ∀ id k : Nat, ((id ≠ 147 ∨ k ≠ 10) ∧ (id ≠ 147 ∨ k ≠ 11) ∧ (id ≠ 147 ∨ k ≠ 21) ∧ (id ≠ 147 ∨ k ≠ 22) ∧ (id ≠ 147 ∨ k ≠ 24) ∧ (id ≠ 147 ∨ k ≠ 8) ∧ (id ≠ 147 ∨ k ≠ 9) ∧ id ≠ 148 ∧ id ≠ 149 ∧ id ≠ 150 ∧ id ≠ 151 ∧ id ≠ 152 ∧ id ≠ 153 ∧ id ≠ 154 ∧ id ≠ 155 ∧ id ≠ 160) → M id k = M id k := fun _ _ _ => rfl
  refine mt_b1I hf (fun r2 hg1 hf => ?_)
  refine mt_jn1 hf (fun (x3 : Int32) => (∀ id k : Nat, ((id ≠ 147 ∨ k ≠ 10) ∧ (id ≠ 147 ∨ k ≠ 11) ∧ (id ≠ 147 ∨ k ≠ 21) ∧ (id ≠ 147 ∨ k ≠ 22) ∧ (id ≠ 147 ∨ k ≠ 24) ∧ (id ≠ 147 ∨ k ≠ 8) ∧ (id ≠ 147 ∨ k ≠ 9) ∧ id ≠ 148 ∧ id ≠ 149 ∧ id ≠ 150 ∧ id ≠ 151 ∧ id ≠ 152 ∧ id ≠ 153 ∧ id ≠ 154 ∧ id ≠ 155 ∧ id ≠ 160) → M id k = M id k) → ∀ id k : Nat, ((id ≠ 147 ∨ k ≠ 10) ∧ (id ≠ 147 ∨ k ≠ 11) ∧ (id ≠ 147 ∨ k ≠ 21) ∧ (id ≠ 147 ∨ k ≠ 22) ∧ (id ≠ 147 ∨ k ≠ 24) ∧ (id ≠ 147 ∨ k ≠ 8) ∧ (id ≠ 147 ∨ k ≠ 9) ∧ id ≠ 148 ∧ id ≠ 149 ∧ id ≠ 150 ∧ id ≠ 151 ∧ id ≠ 152 ∧ id ≠ 153 ∧ id ≠ 154 ∧ id ≠ 155 ∧ id ≠ 160) → (M') id k = M id k) ?_ ?_
  · intro x3 hf hfr
    by_cases c6 : x3 = 0
    · have hf := mt_ifT c6 hf
      refine mt_b2I hf (fun r8 M9 hg7 hf => ?_)
      have hfr : ∀ id k : Nat, ((id ≠ 147 ∨ k ≠ 10) ∧ (id ≠ 147 ∨ k ≠ 11) ∧ (id ≠ 147 ∨ k ≠ 21) ∧ (id ≠ 147 ∨ k ≠ 22) ∧ (id ≠ 147 ∨ k ≠ 24) ∧ (id ≠ 147 ∨ k ≠ 8) ∧ (id ≠ 147 ∨ k ≠ 9) ∧ id ≠ 148 ∧ id ≠ 149 ∧ id ≠ 150 ∧ id ≠ 151 ∧ id ≠ 152 ∧ id ≠ 153 ∧ id ≠ 154 ∧ id ≠ 155 ∧ id ≠ 160) → M9 id k = M id k := fun id k hid => (fr_X12_lackingWith (0 : Int32) M hg7 id k (by omega)).trans (hfr id k hid)
      refine mt_lpI4 hf (fun (x10 : Int32) (x11 : Int32) (x12 : Int32) (M13 : mt_M) => (∀ id k : Nat, ((id ≠ 147 ∨ k ≠ 10) ∧ (id ≠ 147 ∨ k ≠ 11) ∧ (id ≠ 147 ∨ k ≠ 21) ∧ (id ≠ 147 ∨ k ≠ 22) ∧ (id ≠ 147 ∨ k ≠ 24) ∧ (id ≠ 147 ∨ k ≠ 8) ∧ (id ≠ 147 ∨ k ≠ 9) ∧ id ≠ 148 ∧ id ≠ 149 ∧ id ≠ 150 ∧ id ≠ 151 ∧ id ≠ 152 ∧ id ≠ 153 ∧ id ≠ 154 ∧ id ≠ 155 ∧ id ≠ 160) → M13 id k = M id k) → ∀ id k : Nat, ((id ≠ 147 ∨ k ≠ 10) ∧ (id ≠ 147 ∨ k ≠ 11) ∧ (id ≠ 147 ∨ k ≠ 21) ∧ (id ≠ 147 ∨ k ≠ 22) ∧ (id ≠ 147 ∨ k ≠ 24) ∧ (id ≠ 147 ∨ k ≠ 8) ∧ (id ≠ 147 ∨ k ≠ 9) ∧ id ≠ 148 ∧ id ≠ 149 ∧ id ≠ 150 ∧ id ≠ 151 ∧ id ≠ 152 ∧ id ≠ 153 ∧ id ≠ 154 ∧ id ≠ 155 ∧ id ≠ 160) → (M') id k = M id k) ?_ hfr
      intro k14 ih15 x10 x11 x12 M13 hf hfr
      by_cases c16 : ((1 : Int32) <<< ((M13 147 8) &&& 31)) ≤ x12
      · have hf := mt_ifT c16 hf
        by_cases c17 : a2 = 0
        · have hf := mt_ifT c17 hf
          obtain ⟨i1, i2⟩ := mt_so2 hf
          subst i1
          subst i2
          exact hfr
        · have hf := mt_ifF c17 hf
          obtain ⟨i1, i2⟩ := mt_so2 hf
          subst i1
          subst i2
          exact hfr
      · have hf := mt_ifF c16 hf
        refine mt_b1I hf (fun r19 hg18 hf => ?_)
        refine mt_jn3 hf (fun (x20 : Int32) (x21 : Int32) (M22 : mt_M) => (∀ id k : Nat, ((id ≠ 147 ∨ k ≠ 10) ∧ (id ≠ 147 ∨ k ≠ 11) ∧ (id ≠ 147 ∨ k ≠ 21) ∧ (id ≠ 147 ∨ k ≠ 22) ∧ (id ≠ 147 ∨ k ≠ 24) ∧ (id ≠ 147 ∨ k ≠ 8) ∧ (id ≠ 147 ∨ k ≠ 9) ∧ id ≠ 148 ∧ id ≠ 149 ∧ id ≠ 150 ∧ id ≠ 151 ∧ id ≠ 152 ∧ id ≠ 153 ∧ id ≠ 154 ∧ id ≠ 155 ∧ id ≠ 160) → M22 id k = M id k) → ∀ id k : Nat, ((id ≠ 147 ∨ k ≠ 10) ∧ (id ≠ 147 ∨ k ≠ 11) ∧ (id ≠ 147 ∨ k ≠ 21) ∧ (id ≠ 147 ∨ k ≠ 22) ∧ (id ≠ 147 ∨ k ≠ 24) ∧ (id ≠ 147 ∨ k ≠ 8) ∧ (id ≠ 147 ∨ k ≠ 9) ∧ id ≠ 148 ∧ id ≠ 149 ∧ id ≠ 150 ∧ id ≠ 151 ∧ id ≠ 152 ∧ id ≠ 153 ∧ id ≠ 154 ∧ id ≠ 155 ∧ id ≠ 160) → (M') id k = M id k) ?_ ?_
        · intro x20 x21 M22 hf hfr
          refine mt_ltI hf (fun x25 _ hf => ?_)
          exact ih15 x20 x21 x25 M22 hf hfr
        · intro j23 hj24 hf
          by_cases c26 : r19 ≤ a1
          · have hf := mt_ifT c26 hf
            refine mt_b2I hf (fun r28 M29 hg27 hf => ?_)
            have hfr : ∀ id k : Nat, ((id ≠ 147 ∨ k ≠ 10) ∧ (id ≠ 147 ∨ k ≠ 11) ∧ (id ≠ 147 ∨ k ≠ 21) ∧ (id ≠ 147 ∨ k ≠ 22) ∧ (id ≠ 147 ∨ k ≠ 24) ∧ (id ≠ 147 ∨ k ≠ 8) ∧ (id ≠ 147 ∨ k ≠ 9) ∧ id ≠ 148 ∧ id ≠ 149 ∧ id ≠ 150 ∧ id ≠ 151 ∧ id ≠ 152 ∧ id ≠ 153 ∧ id ≠ 154 ∧ id ≠ 155 ∧ id ≠ 160) → M29 id k = M id k := fun id k hid => (fr_X12_lackingWith x12 M13 hg27 id k (by omega)).trans (hfr id k hid)
            by_cases c30 : r28 < x11
            · have hf := mt_ifT c30 hf
              exact hj24 x12 r28 M29 hf hfr
            · have hf := mt_ifF c30 hf
              exact hj24 x10 x11 M29 hf hfr
          · have hf := mt_ifF c26 hf
            exact hj24 x10 x11 M13 hf hfr
    · have hf := mt_ifF c6 hf
      refine mt_b2I hf (fun r32 M33 hg31 hf => ?_)
      have hfr : ∀ id k : Nat, ((id ≠ 147 ∨ k ≠ 10) ∧ (id ≠ 147 ∨ k ≠ 11) ∧ (id ≠ 147 ∨ k ≠ 21) ∧ (id ≠ 147 ∨ k ≠ 22) ∧ (id ≠ 147 ∨ k ≠ 24) ∧ (id ≠ 147 ∨ k ≠ 8) ∧ (id ≠ 147 ∨ k ≠ 9) ∧ id ≠ 148 ∧ id ≠ 149 ∧ id ≠ 150 ∧ id ≠ 151 ∧ id ≠ 152 ∧ id ≠ 153 ∧ id ≠ 154 ∧ id ≠ 155 ∧ id ≠ 160) → M33 id k = M id k := fun id k hid => (fr_X12_no x3 M hg31 id k (by omega)).trans (hfr id k hid)
      obtain ⟨i1, i2⟩ := mt_so2 hf
      subst i1
      subst i2
      exact hfr
  · intro j4 hj5 hf
    by_cases c34 : r2 = 0
    · have hf := mt_ifT c34 hf
      refine mt_b1I hf (fun r36 hg35 hf => ?_)
      by_cases c37 : r36 = 0
      · have hf := mt_ifT c37 hf
        exact hj5 (-2 : Int32) hf hfr
      · have hf := mt_ifF c37 hf
        exact hj5 r2 hf hfr
    · have hf := mt_ifF c34 hf
      exact hj5 r2 hf hfr
set_option maxHeartbeats 4000000 in
set_option maxRecDepth 100000 in
theorem fr_X12_unheard (a1 : Int32) (a2 : Int32) (a3 : Int32) (a4 : Int32) (M : mt_M) {r : Int32} {M' : mt_M} (hf : f_X12_unheard a1 a2 a3 a4 M = some (r, M')) : ∀ id k : Nat, (id ≠ 148) → (M') id k = M id k := by
  unfold f_X12_unheard at hf
  have hfr : ∀ id k : Nat, (id ≠ 148) → M id k = M id k := fun _ _ _ => rfl
  refine mt_b1I hf (fun r2 hg1 hf => ?_)
  refine mt_jn1 hf (fun (v3 : Int32) => (∀ id k : Nat, (id ≠ 148) → M id k = M id k) → ∀ id k : Nat, (id ≠ 148) → (M') id k = M id k) ?_ ?_
  · intro v3 hf hfr
    refine mt_jn1 hf (fun (x6 : Int32) => (∀ id k : Nat, (id ≠ 148) → M id k = M id k) → ∀ id k : Nat, (id ≠ 148) → (M') id k = M id k) ?_ ?_
    · intro x6 hf hfr
      by_cases c9 : x6 = 0
      · have hf := mt_ifT c9 hf
        by_cases c10 : (4 : Int32) ≤ a4
        · have hf := mt_ifT c10 hf
          refine mt_lpI2 hf (fun (x11 : Int32) (x12 : Int32) => (∀ id k : Nat, (id ≠ 148) → M id k = M id k) → ∀ id k : Nat, (id ≠ 148) → (M') id k = M id k) ?_ hfr
          intro k13 ih14 x11 x12 hf hfr
          by_cases c15 : (4 : Int32) ≤ x12
          · have hf := mt_ifT c15 hf
            obtain ⟨i1, i2⟩ := mt_so2 hf
            subst i1
            subst i2
            exact hfr
          · have hf := mt_ifF c15 hf
            refine mt_b1I hf (fun r17 hg16 hf => ?_)
            refine mt_b1I hf (fun r19 hg18 hf => ?_)
            refine mt_jn1 hf (fun (v20 : Int32) => (∀ id k : Nat, (id ≠ 148) → M id k = M id k) → ∀ id k : Nat, (id ≠ 148) → (M') id k = M id k) ?_ ?_
            · intro v20 hf hfr
              refine mt_ltI hf (fun x23 _ hf => ?_)
              exact ih14 v20 x23 hf hfr
            · intro j21 hj22 hf
              by_cases c24 : r19 ≤ r17
              · have hf := mt_ifT c24 hf
                exact hj22 x11 hf hfr
              · have hf := mt_ifF c24 hf
                exact hj22 x12 hf hfr
        · have hf := mt_ifF c10 hf
          refine mt_b1I hf (fun r26 hg25 hf => ?_)
          obtain ⟨i1, i2⟩ := mt_so2 hf
          subst i1
          subst i2
          exact hfr
      · have hf := mt_ifF c9 hf
        refine mt_b2I hf (fun r28 M29 hg27 hf => ?_)
        have hfr : ∀ id k : Nat, (id ≠ 148) → M29 id k = M id k := fun id k hid => (fr_X12_no x6 M hg27 id k (by omega)).trans (hfr id k hid)
        obtain ⟨i1, i2⟩ := mt_so2 hf
        subst i1
        subst i2
        exact hfr
    · intro j7 hj8 hf
      by_cases c30 : v3 = 0
      · have hf := mt_ifT c30 hf
        refine mt_b1I hf (fun r32 hg31 hf => ?_)
        by_cases c33 : r32 = 0
        · have hf := mt_ifT c33 hf
          exact hj8 (-2 : Int32) hf hfr
        · have hf := mt_ifF c33 hf
          exact hj8 v3 hf hfr
      · have hf := mt_ifF c30 hf
        exact hj8 v3 hf hfr
  · intro j4 hj5 hf
    by_cases c34 : r2 = 0
    · have hf := mt_ifT c34 hf
      exact hj5 (-1 : Int32) hf hfr
    · have hf := mt_ifF c34 hf
      refine mt_b1I hf (fun r36 hg35 hf => ?_)
      exact hj5 r36 hf hfr
set_option maxHeartbeats 4000000 in
set_option maxRecDepth 100000 in
theorem fr_X12_game (a1 : Int32) (M : mt_M) {r : Int32} {M' : mt_M} (hf : f_X12_game a1 M = some (r, M')) : ∀ id k : Nat, (id ≠ 148) → (M') id k = M id k := by
  unfold f_X12_game at hf
  have hfr : ∀ id k : Nat, (id ≠ 148) → M id k = M id k := fun _ _ _ => rfl
  refine mt_b1I hf (fun r2 hg1 hf => ?_)
  by_cases c3 : r2 = 0
  · have hf := mt_ifT c3 hf
    refine mt_b2I hf (fun r31 M32 hg30 hf => ?_)
    have hfr : ∀ id k : Nat, (id ≠ 148) → M32 id k = M id k := fun id k hid => (fr_X12_no (-1 : Int32) M hg30 id k (by omega)).trans (hfr id k hid)
    obtain ⟨i1, i2⟩ := mt_so2 hf
    subst i1
    subst i2
    exact hfr
  · have hf := mt_ifF c3 hf
    refine mt_lpI2 hf (fun (x4 : Int32) (x5 : Int32) => (∀ id k : Nat, (id ≠ 148) → M id k = M id k) → ∀ id k : Nat, (id ≠ 148) → (M') id k = M id k) ?_ hfr
    intro k6 ih7 x4 x5 hf hfr
    by_cases c8 : (4 : Int32) ≤ x5
    · have hf := mt_ifT c8 hf
      obtain ⟨i1, i2⟩ := mt_so2 hf
      subst i1
      subst i2
      exact hfr
    · have hf := mt_ifF c8 hf
      refine mt_b1I hf (fun r10 hg9 hf => ?_)
      refine mt_b1I hf (fun r12 hg11 hf => ?_)
      refine mt_b1I hf (fun r14 hg13 hf => ?_)
      refine mt_b1I hf (fun r16 hg15 hf => ?_)
      refine mt_jn1 hf (fun (v17 : Int32) => (∀ id k : Nat, (id ≠ 148) → M id k = M id k) → ∀ id k : Nat, (id ≠ 148) → (M') id k = M id k) ?_ ?_
      · intro v17 hf hfr
        refine mt_ltI hf (fun x20 _ hf => ?_)
        refine mt_ltI hf (fun x21 _ hf => ?_)
        exact ih7 x20 x21 hf hfr
      · intro j18 hj19 hf
        refine mt_jn0 hf ((∀ id k : Nat, (id ≠ 148) → M id k = M id k) → ∀ id k : Nat, (id ≠ 148) → (M') id k = M id k) ?_ ?_
        · intro hf hfr
          exact hj19 (0 : Int32) hf hfr
        · intro j22 hj23 hf
          by_cases c24 : r16 < r12
          · have hf := mt_ifT c24 hf
            exact hj23 hf hfr
          · have hf := mt_ifF c24 hf
            refine mt_b1I hf (fun r26 hg25 hf => ?_)
            refine mt_b1I hf (fun r28 hg27 hf => ?_)
            by_cases c29 : r28 < r12
            · have hf := mt_ifT c29 hf
              exact hj23 hf hfr
            · have hf := mt_ifF c29 hf
              exact hj19 ((1 : Int32) <<< (x5 &&& 31)) hf hfr
set_option maxHeartbeats 4000000 in
set_option maxRecDepth 100000 in
theorem fr_X12_all (a1 : Int32) (a2 : Int32) (a3 : Int32) (M : mt_M) {r : Int32} {M' : mt_M} (hf : f_X12_all a1 a2 a3 M = some (r, M')) : ∀ id k : Nat, (id ≠ 148) → (M') id k = M id k := by
  unfold f_X12_all at hf
  have hfr : ∀ id k : Nat, (id ≠ 148) → M id k = M id k := fun _ _ _ => rfl
  refine mt_b1I hf (fun r2 hg1 hf => ?_)
  refine mt_jn1 hf (fun (x3 : Int32) => (∀ id k : Nat, (id ≠ 148) → M id k = M id k) → ∀ id k : Nat, (id ≠ 148) → (M') id k = M id k) ?_ ?_
  · intro x3 hf hfr
    by_cases c6 : x3 = 0
    · have hf := mt_ifT c6 hf
      refine mt_lpI3 hf (fun (x7 : Int32) (x8 : Int32) (x9 : Int32) => (∀ id k : Nat, (id ≠ 148) → M id k = M id k) → ∀ id k : Nat, (id ≠ 148) → (M') id k = M id k) ?_ hfr
      intro k10 ih11 x7 x8 x9 hf hfr
      by_cases c12 : (M 147 8) ≤ x9
      · have hf := mt_ifT c12 hf
        by_cases c13 : a3 = 0
        · have hf := mt_ifT c13 hf
          obtain ⟨i1, i2⟩ := mt_so2 hf
          subst i1
          subst i2
          exact hfr
        · have hf := mt_ifF c13 hf
          obtain ⟨i1, i2⟩ := mt_so2 hf
          subst i1
          subst i2
          exact hfr
      · have hf := mt_ifF c12 hf
        refine mt_b1I hf (fun r15 hg14 hf => ?_)
        refine mt_b1I hf (fun r17 hg16 hf => ?_)
        refine mt_jn1 hf (fun (v18 : Int32) => (∀ id k : Nat, (id ≠ 148) → M id k = M id k) → ∀ id k : Nat, (id ≠ 148) → (M') id k = M id k) ?_ ?_
        · intro v18 hf hfr
          refine mt_jn1 hf (fun (v21 : Int32) => (∀ id k : Nat, (id ≠ 148) → M id k = M id k) → ∀ id k : Nat, (id ≠ 148) → (M') id k = M id k) ?_ ?_
          · intro v21 hf hfr
            refine mt_ltI hf (fun x24 _ hf => ?_)
            refine mt_jn1 hf (fun (v25 : Int32) => (∀ id k : Nat, (id ≠ 148) → M id k = M id k) → ∀ id k : Nat, (id ≠ 148) → (M') id k = M id k) ?_ ?_
            · intro v25 hf hfr
              refine mt_b1I hf (fun r29 hg28 hf => ?_)
              refine mt_ltI hf (fun x30 _ hf => ?_)
              refine mt_ltI hf (fun x31 _ hf => ?_)
              exact ih11 x24 x30 x31 hf hfr
            · intro j26 hj27 hf
              by_cases c32 : v18 = 0
              · have hf := mt_ifT c32 hf
                exact hj27 (1 : Int32) hf hfr
              · have hf := mt_ifF c32 hf
                exact hj27 (2 : Int32) hf hfr
          · intro j22 hj23 hf
            by_cases c33 : v18 = 0
            · have hf := mt_ifT c33 hf
              exact hj23 (0 : Int32) hf hfr
            · have hf := mt_ifF c33 hf
              exact hj23 ((1 : Int32) <<< (x9 &&& 31)) hf hfr
        · intro j19 hj20 hf
          by_cases c34 : r17 ≤ r15
          · have hf := mt_ifT c34 hf
            exact hj20 (0 : Int32) hf hfr
          · have hf := mt_ifF c34 hf
            exact hj20 (1 : Int32) hf hfr
    · have hf := mt_ifF c6 hf
      refine mt_b2I hf (fun r36 M37 hg35 hf => ?_)
      have hfr : ∀ id k : Nat, (id ≠ 148) → M37 id k = M id k := fun id k hid => (fr_X12_no x3 M hg35 id k (by omega)).trans (hfr id k hid)
      obtain ⟨i1, i2⟩ := mt_so2 hf
      subst i1
      subst i2
      exact hfr
  · intro j4 hj5 hf
    by_cases c38 : r2 = 0
    · have hf := mt_ifT c38 hf
      refine mt_b1I hf (fun r40 hg39 hf => ?_)
      by_cases c41 : r40 = 0
      · have hf := mt_ifT c41 hf
        exact hj5 (-2 : Int32) hf hfr
      · have hf := mt_ifF c41 hf
        exact hj5 r2 hf hfr
    · have hf := mt_ifF c38 hf
      exact hj5 r2 hf hfr
set_option maxHeartbeats 4000000 in
set_option maxRecDepth 100000 in
theorem fr_X12_flour (a1 : Int32) (a2 : Int32) (a3 : Int32) (a4 : Int32) (M : mt_M) (u : mt_U) {r : Int64} {M' : mt_M} {u' : mt_U} (hf : f_X12_flour a1 a2 a3 a4 M u = some (r, M', u')) : ∀ id k : Nat, (id ≠ 148) → (M') id k = M id k := by
  unfold f_X12_flour at hf
  have hfr : ∀ id k : Nat, (id ≠ 148) → M id k = M id k := fun _ _ _ => rfl
  refine mt_jn1 hf (fun (v1 : Int32) => (∀ id k : Nat, (id ≠ 148) → M id k = M id k) → ∀ id k : Nat, (id ≠ 148) → (M') id k = M id k) ?_ ?_
  · intro v1 hf hfr
    by_cases c4 : v1 = 0
    · have hf := mt_ifT c4 hf
      refine mt_lpI2 hf (fun (x5 : Int32) (U6 : mt_U) => (∀ id k : Nat, (id ≠ 148) → M id k = M id k) → ∀ id k : Nat, (id ≠ 148) → (M') id k = M id k) ?_ hfr
      intro k7 ih8 x5 U6 hf hfr
      by_cases c9 : (14 : Int32) ≤ x5
      · have hf := mt_ifT c9 hf
        refine mt_lpI3 hf (fun (x10 : Int64) (x11 : Int32) (U12 : mt_U) => (∀ id k : Nat, (id ≠ 148) → M id k = M id k) → ∀ id k : Nat, (id ≠ 148) → (M') id k = M id k) ?_ hfr
        intro k13 ih14 x10 x11 U12 hf hfr
        by_cases c15 : a2 ≤ x11
        · have hf := mt_ifT c15 hf
          refine mt_lpI2 hf (fun (x16 : Int64) (x17 : Int32) => (∀ id k : Nat, (id ≠ 148) → M id k = M id k) → ∀ id k : Nat, (id ≠ 148) → (M') id k = M id k) ?_ hfr
          intro k18 ih19 x16 x17 hf hfr
          by_cases c20 : a1 ≤ x17
          · have hf := mt_ifT c20 hf
            refine mt_b1I hf (fun r22 hg21 hf => ?_)
            obtain ⟨i1, i2, i3⟩ := mt_so3 hf
            subst i1
            subst i2
            subst i3
            exact hfr
          · have hf := mt_ifF c20 hf
            refine mt_ciI hf (fun _ hf => ?_)
            refine mt_ltI hf (fun x24 _ hf => ?_)
            refine mt_ltI hf (fun x25 _ hf => ?_)
            exact ih19 x24 x25 hf hfr
        · have hf := mt_ifF c15 hf
          refine mt_lpI2 hf (fun (x26 : Int32) (U27 : mt_U) => (∀ id k : Nat, (id ≠ 148) → M id k = M id k) → ∀ id k : Nat, (id ≠ 148) → (M') id k = M id k) ?_ hfr
          intro k28 ih29 x26 U27 hf hfr
          by_cases c30 : x26 < 0
          · have hf := mt_ifT c30 hf
            refine mt_ltI hf (fun x31 _ hf => ?_)
            refine mt_ltI hf (fun x32 _ hf => ?_)
            exact ih14 x31 x32 U27 hf hfr
          · have hf := mt_ifF c30 hf
            refine mt_ciI hf (fun _ hf => ?_)
            refine mt_jn1 hf (fun (v34 : Int64) => (∀ id k : Nat, (id ≠ 148) → M id k = M id k) → ∀ id k : Nat, (id ≠ 148) → (M') id k = M id k) ?_ ?_
            · intro v34 hf hfr
              refine mt_ciI hf (fun _ hf => ?_)
              refine mt_ltI hf (fun U37 _ hf => ?_)
              refine mt_ltI hf (fun x39 _ hf => ?_)
              exact ih29 x39 U37 hf hfr
            · intro j35 hj36 hf
              by_cases c40 : x26 = 0
              · have hf := mt_ifT c40 hf
                exact hj36 (0 : Int64) hf hfr
              · have hf := mt_ifF c40 hf
                refine mt_ciI hf (fun _ hf => ?_)
                exact hj36 (((a3).toInt64) * (U27 (x26 - (1 : Int32)).toNatClampNeg)) hf hfr
      · have hf := mt_ifF c9 hf
        refine mt_jn1 hf (fun (v42 : Int64) => (∀ id k : Nat, (id ≠ 148) → M id k = M id k) → ∀ id k : Nat, (id ≠ 148) → (M') id k = M id k) ?_ ?_
        · intro v42 hf hfr
          refine mt_ciI hf (fun _ hf => ?_)
          refine mt_ltI hf (fun U45 _ hf => ?_)
          refine mt_ltI hf (fun x47 _ hf => ?_)
          exact ih8 x47 U45 hf hfr
        · intro j43 hj44 hf
          by_cases c48 : x5 = 0
          · have hf := mt_ifT c48 hf
            exact hj44 (1 : Int64) hf hfr
          · have hf := mt_ifF c48 hf
            exact hj44 (0 : Int64) hf hfr
    · have hf := mt_ifF c4 hf
      refine mt_b2I hf (fun r50 M51 hg49 hf => ?_)
      have hfr : ∀ id k : Nat, (id ≠ 148) → M51 id k = M id k := fun id k hid => (fr_X12_lowest v1 M hg49 id k (by omega)).trans (hfr id k hid)
      obtain ⟨i1, i2, i3⟩ := mt_so3 hf
      subst i1
      subst i2
      subst i3
      exact hfr
  · intro j2 hj3 hf
    refine mt_jn0 hf ((∀ id k : Nat, (id ≠ 148) → M id k = M id k) → ∀ id k : Nat, (id ≠ 148) → (M') id k = M id k) ?_ ?_
    · intro hf hfr
      exact hj3 (-4 : Int32) hf hfr
    · intro j52 hj53 hf
      by_cases c54 : a1 < 0
      · have hf := mt_ifT c54 hf
        exact hj53 hf hfr
      · have hf := mt_ifF c54 hf
        by_cases c55 : a2 < 0
        · have hf := mt_ifT c55 hf
          exact hj53 hf hfr
        · have hf := mt_ifF c55 hf
          by_cases c56 : 0 ≤ a3
          · have hf := mt_ifT c56 hf
            refine mt_jn0 hf ((∀ id k : Nat, (id ≠ 148) → M id k = M id k) → ∀ id k : Nat, (id ≠ 148) → (M') id k = M id k) ?_ ?_
            · intro hf hfr
              exact hj3 (-6 : Int32) hf hfr
            · intro j57 hj58 hf
              by_cases c59 : (9 : Int32) < a1
              · have hf := mt_ifT c59 hf
                exact hj58 hf hfr
              · have hf := mt_ifF c59 hf
                by_cases c60 : (12 : Int32) < a2
                · have hf := mt_ifT c60 hf
                  exact hj58 hf hfr
                · have hf := mt_ifF c60 hf
                  by_cases c61 : a3 ≤ (10 : Int32)
                  · have hf := mt_ifT c61 hf
                    refine mt_b1I hf (fun r63 hg62 hf => ?_)
                    by_cases c64 : r63 = 0
                    · have hf := mt_ifT c64 hf
                      exact hj3 (-2 : Int32) hf hfr
                    · have hf := mt_ifF c64 hf
                      exact hj3 (0 : Int32) hf hfr
                  · have hf := mt_ifF c61 hf
                    exact hj58 hf hfr
          · have hf := mt_ifF c56 hf
            exact hj53 hf hfr
set_option maxHeartbeats 4000000 in
set_option maxRecDepth 100000 in
theorem fr_X12_sure (a1 : Int32) (a2 : Int32) (a3 : Int32) (M : mt_M) {r : Int64} {M' : mt_M} (hf : f_X12_sure a1 a2 a3 M = some (r, M')) : ∀ id k : Nat, (id ≠ 148) → (M') id k = M id k := by
  unfold f_X12_sure at hf
  have hfr : ∀ id k : Nat, (id ≠ 148) → M id k = M id k := fun _ _ _ => rfl
  refine mt_b1I hf (fun r2 hg1 hf => ?_)
  refine mt_jn1 hf (fun (x3 : Int32) => (∀ id k : Nat, (id ≠ 148) → M id k = M id k) → ∀ id k : Nat, (id ≠ 148) → (M') id k = M id k) ?_ ?_
  · intro x3 hf hfr
    by_cases c6 : x3 = 0
    · have hf := mt_ifT c6 hf
      refine mt_jn1 hf (fun (v7 : Int64) => (∀ id k : Nat, (id ≠ 148) → M id k = M id k) → ∀ id k : Nat, (id ≠ 148) → (M') id k = M id k) ?_ ?_
      · intro v7 hf hfr
        refine mt_ltI hf (fun x10 _ hf => ?_)
        refine mt_jn1 hf (fun (v11 : Int64) => (∀ id k : Nat, (id ≠ 148) → M id k = M id k) → ∀ id k : Nat, (id ≠ 148) → (M') id k = M id k) ?_ ?_
        · intro v11 hf hfr
          refine mt_b1I hf (fun r15 hg14 hf => ?_)
          obtain ⟨i1, i2⟩ := mt_so2 hf
          subst i1
          subst i2
          exact hfr
        · intro j12 hj13 hf
          by_cases c16 : a2 = (1 : Int32)
          · have hf := mt_ifT c16 hf
            exact hj13 (1 : Int64) hf hfr
          · have hf := mt_ifF c16 hf
            exact hj13 (9 : Int64) hf hfr
      · intro j8 hj9 hf
        by_cases c17 : a2 = (1 : Int32)
        · have hf := mt_ifT c17 hf
          exact hj9 (9 : Int64) hf hfr
        · have hf := mt_ifF c17 hf
          exact hj9 (1 : Int64) hf hfr
    · have hf := mt_ifF c6 hf
      refine mt_b2I hf (fun r19 M20 hg18 hf => ?_)
      have hfr : ∀ id k : Nat, (id ≠ 148) → M20 id k = M id k := fun id k hid => (fr_X12_lowest x3 M hg18 id k (by omega)).trans (hfr id k hid)
      obtain ⟨i1, i2⟩ := mt_so2 hf
      subst i1
      subst i2
      exact hfr
  · intro j4 hj5 hf
    by_cases c21 : r2 = 0
    · have hf := mt_ifT c21 hf
      refine mt_b1I hf (fun r23 hg22 hf => ?_)
      refine mt_jn0 hf ((∀ id k : Nat, (id ≠ 148) → M id k = M id k) → ∀ id k : Nat, (id ≠ 148) → (M') id k = M id k) ?_ ?_
      · intro hf hfr
        exact hj5 (-2 : Int32) hf hfr
      · intro j24 hj25 hf
        by_cases c26 : r23 = 0
        · have hf := mt_ifT c26 hf
          exact hj25 hf hfr
        · have hf := mt_ifF c26 hf
          refine mt_b1I hf (fun r28 hg27 hf => ?_)
          by_cases c29 : r28 = 0
          · have hf := mt_ifT c29 hf
            exact hj25 hf hfr
          · have hf := mt_ifF c29 hf
            exact hj5 r2 hf hfr
    · have hf := mt_ifF c21 hf
      exact hj5 r2 hf hfr
set_option maxHeartbeats 4000000 in
set_option maxRecDepth 100000 in
theorem fr_X12_bars (a1 : Int32) (a2 : Int32) (a3 : Int32) (M : mt_M) {r : Int32} {M' : mt_M} (hf : f_X12_bars a1 a2 a3 M = some (r, M')) : ∀ id k : Nat, (id ≠ 148) → (M') id k = M id k := by
  unfold f_X12_bars at hf
  have hfr : ∀ id k : Nat, (id ≠ 148) → M id k = M id k := fun _ _ _ => rfl
  refine mt_jn1 hf (fun (v1 : Int32) => (∀ id k : Nat, (id ≠ 148) → M id k = M id k) → ∀ id k : Nat, (id ≠ 148) → (M') id k = M id k) ?_ ?_
  · intro v1 hf hfr
    by_cases c4 : v1 = 0
    · have hf := mt_ifT c4 hf
      refine mt_ckI hf (fun _ hf => ?_)
      by_cases c6 : (a3 / a1) ≤ a2
      · have hf := mt_ifT c6 hf
        obtain ⟨i1, i2⟩ := mt_so2 hf
        subst i1
        subst i2
        exact hfr
      · have hf := mt_ifF c6 hf
        obtain ⟨i1, i2⟩ := mt_so2 hf
        subst i1
        subst i2
        exact hfr
    · have hf := mt_ifF c4 hf
      refine mt_b2I hf (fun r8 M9 hg7 hf => ?_)
      have hfr : ∀ id k : Nat, (id ≠ 148) → M9 id k = M id k := fun id k hid => (fr_X12_no v1 M hg7 id k (by omega)).trans (hfr id k hid)
      obtain ⟨i1, i2⟩ := mt_so2 hf
      subst i1
      subst i2
      exact hfr
  · intro j2 hj3 hf
    refine mt_jn0 hf ((∀ id k : Nat, (id ≠ 148) → M id k = M id k) → ∀ id k : Nat, (id ≠ 148) → (M') id k = M id k) ?_ ?_
    · intro hf hfr
      exact hj3 (-4 : Int32) hf hfr
    · intro j10 hj11 hf
      by_cases c12 : a1 < (2 : Int32)
      · have hf := mt_ifT c12 hf
        exact hj11 hf hfr
      · have hf := mt_ifF c12 hf
        by_cases c13 : a2 < (1 : Int32)
        · have hf := mt_ifT c13 hf
          exact hj11 hf hfr
        · have hf := mt_ifF c13 hf
          by_cases c14 : 0 ≤ a3
          · have hf := mt_ifT c14 hf
            refine mt_jn0 hf ((∀ id k : Nat, (id ≠ 148) → M id k = M id k) → ∀ id k : Nat, (id ≠ 148) → (M') id k = M id k) ?_ ?_
            · intro hf hfr
              exact hj3 (-6 : Int32) hf hfr
            · intro j15 hj16 hf
              by_cases c17 : (20 : Int32) < a1
              · have hf := mt_ifT c17 hf
                exact hj16 hf hfr
              · have hf := mt_ifF c17 hf
                by_cases c18 : (9 : Int32) < a2
                · have hf := mt_ifT c18 hf
                  exact hj16 hf hfr
                · have hf := mt_ifF c18 hf
                  by_cases c19 : a3 ≤ (99 : Int32)
                  · have hf := mt_ifT c19 hf
                    exact hj3 (0 : Int32) hf hfr
                  · have hf := mt_ifF c19 hf
                    exact hj16 hf hfr
          · have hf := mt_ifF c14 hf
            exact hj11 hf hfr
set_option maxHeartbeats 4000000 in
set_option maxRecDepth 100000 in
theorem fr_X12_alike (a1 : Int32) (M : mt_M) {r : Int32} {M' : mt_M} (hf : f_X12_alike a1 M = some (r, M')) : ∀ id k : Nat, (id ≠ 148) → (M') id k = M id k := by
  unfold f_X12_alike at hf
  have hfr : ∀ id k : Nat, (id ≠ 148) → M id k = M id k := fun _ _ _ => rfl
  refine mt_b1I hf (fun r2 hg1 hf => ?_)
  by_cases c3 : r2 = 0
  · have hf := mt_ifT c3 hf
    refine mt_b2I hf (fun r34 M35 hg33 hf => ?_)
    have hfr : ∀ id k : Nat, (id ≠ 148) → M35 id k = M id k := fun id k hid => (fr_X12_no (-2 : Int32) M hg33 id k (by omega)).trans (hfr id k hid)
    obtain ⟨i1, i2⟩ := mt_so2 hf
    subst i1
    subst i2
    exact hfr
  · have hf := mt_ifF c3 hf
    refine mt_lpI3 hf (fun (x4 : Int32) (x5 : Int32) (x6 : Int32) => (∀ id k : Nat, (id ≠ 148) → M id k = M id k) → ∀ id k : Nat, (id ≠ 148) → (M') id k = M id k) ?_ hfr
    intro k7 ih8 x4 x5 x6 hf hfr
    by_cases c9 : (M 147 8) ≤ x6
    · have hf := mt_ifT c9 hf
      by_cases c10 : a1 = 0
      · have hf := mt_ifT c10 hf
        obtain ⟨i1, i2⟩ := mt_so2 hf
        subst i1
        subst i2
        exact hfr
      · have hf := mt_ifF c10 hf
        obtain ⟨i1, i2⟩ := mt_so2 hf
        subst i1
        subst i2
        exact hfr
    · have hf := mt_ifF c9 hf
      refine mt_b1I hf (fun r12 hg11 hf => ?_)
      refine mt_jn1 hf (fun (v13 : Int32) => (∀ id k : Nat, (id ≠ 148) → M id k = M id k) → ∀ id k : Nat, (id ≠ 148) → (M') id k = M id k) ?_ ?_
      · intro v13 hf hfr
        refine mt_ltI hf (fun x16 _ hf => ?_)
        refine mt_ltI hf (fun x17 _ hf => ?_)
        refine mt_lpI2 hf (fun (x18 : Int32) (x19 : Int32) => (∀ id k : Nat, (id ≠ 148) → M id k = M id k) → ∀ id k : Nat, (id ≠ 148) → (M') id k = M id k) ?_ hfr
        intro k20 ih21 x18 x19 hf hfr
        by_cases c22 : (M 147 8) ≤ x19
        · have hf := mt_ifT c22 hf
          refine mt_ltI hf (fun x23 _ hf => ?_)
          exact ih8 x18 x16 x23 hf hfr
        · have hf := mt_ifF c22 hf
          refine mt_b1I hf (fun r25 hg24 hf => ?_)
          refine mt_jn1 hf (fun (v26 : Int32) => (∀ id k : Nat, (id ≠ 148) → M id k = M id k) → ∀ id k : Nat, (id ≠ 148) → (M') id k = M id k) ?_ ?_
          · intro v26 hf hfr
            refine mt_ltI hf (fun x29 _ hf => ?_)
            refine mt_ltI hf (fun x30 _ hf => ?_)
            exact ih21 x29 x30 hf hfr
          · intro j27 hj28 hf
            by_cases c31 : r25 = 0
            · have hf := mt_ifT c31 hf
              exact hj28 (0 : Int32) hf hfr
            · have hf := mt_ifF c31 hf
              exact hj28 (1 : Int32) hf hfr
      · intro j14 hj15 hf
        by_cases c32 : (r12 &&& (((1 : Int32) <<< (x6 &&& 31)) - (1 : Int32))) = 0
        · have hf := mt_ifT c32 hf
          exact hj15 (1 : Int32) hf hfr
        · have hf := mt_ifF c32 hf
          exact hj15 (0 : Int32) hf hfr
set_option maxHeartbeats 4000000 in
set_option maxRecDepth 100000 in
theorem fr_X12_turns (a1 : Int32) (a2 : Int32) (M : mt_M) {r : Int32} {M' : mt_M} (hf : f_X12_turns a1 a2 M = some (r, M')) : ∀ id k : Nat, ((id ≠ 147 ∨ k ≠ 10) ∧ (id ≠ 147 ∨ k ≠ 11) ∧ (id ≠ 147 ∨ k ≠ 21) ∧ (id ≠ 147 ∨ k ≠ 22) ∧ (id ≠ 147 ∨ k ≠ 8) ∧ (id ≠ 147 ∨ k ≠ 9) ∧ id ≠ 148 ∧ id ≠ 149 ∧ id ≠ 150 ∧ id ≠ 151 ∧ id ≠ 152 ∧ id ≠ 153 ∧ id ≠ 154 ∧ id ≠ 155 ∧ id ≠ 160) → (M') id k = M id k := by
  unfold f_X12_turns at hf
  have hfr : ∀ id k : Nat, ((id ≠ 147 ∨ k ≠ 10) ∧ (id ≠ 147 ∨ k ≠ 11) ∧ (id ≠ 147 ∨ k ≠ 21) ∧ (id ≠ 147 ∨ k ≠ 22) ∧ (id ≠ 147 ∨ k ≠ 8) ∧ (id ≠ 147 ∨ k ≠ 9) ∧ id ≠ 148 ∧ id ≠ 149 ∧ id ≠ 150 ∧ id ≠ 151 ∧ id ≠ 152 ∧ id ≠ 153 ∧ id ≠ 154 ∧ id ≠ 155 ∧ id ≠ 160) → M id k = M id k := fun _ _ _ => rfl
  refine mt_b1I hf (fun r2 hg1 hf => ?_)
  refine mt_jn1 hf (fun (x3 : Int32) => (∀ id k : Nat, ((id ≠ 147 ∨ k ≠ 10) ∧ (id ≠ 147 ∨ k ≠ 11) ∧ (id ≠ 147 ∨ k ≠ 21) ∧ (id ≠ 147 ∨ k ≠ 22) ∧ (id ≠ 147 ∨ k ≠ 8) ∧ (id ≠ 147 ∨ k ≠ 9) ∧ id ≠ 148 ∧ id ≠ 149 ∧ id ≠ 150 ∧ id ≠ 151 ∧ id ≠ 152 ∧ id ≠ 153 ∧ id ≠ 154 ∧ id ≠ 155 ∧ id ≠ 160) → M id k = M id k) → ∀ id k : Nat, ((id ≠ 147 ∨ k ≠ 10) ∧ (id ≠ 147 ∨ k ≠ 11) ∧ (id ≠ 147 ∨ k ≠ 21) ∧ (id ≠ 147 ∨ k ≠ 22) ∧ (id ≠ 147 ∨ k ≠ 8) ∧ (id ≠ 147 ∨ k ≠ 9) ∧ id ≠ 148 ∧ id ≠ 149 ∧ id ≠ 150 ∧ id ≠ 151 ∧ id ≠ 152 ∧ id ≠ 153 ∧ id ≠ 154 ∧ id ≠ 155 ∧ id ≠ 160) → (M') id k = M id k) ?_ ?_
  · intro x3 hf hfr
    by_cases c6 : x3 = 0
    · have hf := mt_ifT c6 hf
      refine mt_b1I hf (fun M8 hg7 hf => ?_)
      have hfr : ∀ id k : Nat, ((id ≠ 147 ∨ k ≠ 10) ∧ (id ≠ 147 ∨ k ≠ 11) ∧ (id ≠ 147 ∨ k ≠ 21) ∧ (id ≠ 147 ∨ k ≠ 22) ∧ (id ≠ 147 ∨ k ≠ 8) ∧ (id ≠ 147 ∨ k ≠ 9) ∧ id ≠ 148 ∧ id ≠ 149 ∧ id ≠ 150 ∧ id ≠ 151 ∧ id ≠ 152 ∧ id ≠ 153 ∧ id ≠ 154 ∧ id ≠ 155 ∧ id ≠ 160) → M8 id k = M id k := fun id k hid => (fr_X12_thinks M hg7 id k (by omega)).trans (hfr id k hid)
      refine mt_ltI hf (fun x9 _ hf => ?_)
      refine mt_ltI hf (fun x10 _ hf => ?_)
      refine mt_lpI3 hf (fun (x11 : Int32) (x12 : Int32) (M13 : mt_M) => (∀ id k : Nat, ((id ≠ 147 ∨ k ≠ 10) ∧ (id ≠ 147 ∨ k ≠ 11) ∧ (id ≠ 147 ∨ k ≠ 21) ∧ (id ≠ 147 ∨ k ≠ 22) ∧ (id ≠ 147 ∨ k ≠ 8) ∧ (id ≠ 147 ∨ k ≠ 9) ∧ id ≠ 148 ∧ id ≠ 149 ∧ id ≠ 150 ∧ id ≠ 151 ∧ id ≠ 152 ∧ id ≠ 153 ∧ id ≠ 154 ∧ id ≠ 155 ∧ id ≠ 160) → M13 id k = M id k) → ∀ id k : Nat, ((id ≠ 147 ∨ k ≠ 10) ∧ (id ≠ 147 ∨ k ≠ 11) ∧ (id ≠ 147 ∨ k ≠ 21) ∧ (id ≠ 147 ∨ k ≠ 22) ∧ (id ≠ 147 ∨ k ≠ 8) ∧ (id ≠ 147 ∨ k ≠ 9) ∧ id ≠ 148 ∧ id ≠ 149 ∧ id ≠ 150 ∧ id ≠ 151 ∧ id ≠ 152 ∧ id ≠ 153 ∧ id ≠ 154 ∧ id ≠ 155 ∧ id ≠ 160) → (M') id k = M id k) ?_ hfr
      intro k14 ih15 x11 x12 M13 hf hfr
      by_cases c16 : a1 ≤ x12
      · have hf := mt_ifT c16 hf
        refine mt_ltI hf (fun x17 _ hf => ?_)
        refine mt_b1I hf (fun M19 hg18 hf => ?_)
        have hfr : ∀ id k : Nat, ((id ≠ 147 ∨ k ≠ 10) ∧ (id ≠ 147 ∨ k ≠ 11) ∧ (id ≠ 147 ∨ k ≠ 21) ∧ (id ≠ 147 ∨ k ≠ 22) ∧ (id ≠ 147 ∨ k ≠ 8) ∧ (id ≠ 147 ∨ k ≠ 9) ∧ id ≠ 148 ∧ id ≠ 149 ∧ id ≠ 150 ∧ id ≠ 151 ∧ id ≠ 152 ∧ id ≠ 153 ∧ id ≠ 154 ∧ id ≠ 155 ∧ id ≠ 160) → M19 id k = M id k := fun id k hid => (fr_X12_forgets M13 hg18 id k (by omega)).trans (hfr id k hid)
        obtain ⟨i1, i2⟩ := mt_so2 hf
        subst i1
        subst i2
        exact hfr
      · have hf := mt_ifF c16 hf
        refine mt_jn1 hf (fun (v20 : Int32) => (∀ id k : Nat, ((id ≠ 147 ∨ k ≠ 10) ∧ (id ≠ 147 ∨ k ≠ 11) ∧ (id ≠ 147 ∨ k ≠ 21) ∧ (id ≠ 147 ∨ k ≠ 22) ∧ (id ≠ 147 ∨ k ≠ 8) ∧ (id ≠ 147 ∨ k ≠ 9) ∧ id ≠ 148 ∧ id ≠ 149 ∧ id ≠ 150 ∧ id ≠ 151 ∧ id ≠ 152 ∧ id ≠ 153 ∧ id ≠ 154 ∧ id ≠ 155 ∧ id ≠ 160) → M13 id k = M id k) → ∀ id k : Nat, ((id ≠ 147 ∨ k ≠ 10) ∧ (id ≠ 147 ∨ k ≠ 11) ∧ (id ≠ 147 ∨ k ≠ 21) ∧ (id ≠ 147 ∨ k ≠ 22) ∧ (id ≠ 147 ∨ k ≠ 8) ∧ (id ≠ 147 ∨ k ≠ 9) ∧ id ≠ 148 ∧ id ≠ 149 ∧ id ≠ 150 ∧ id ≠ 151 ∧ id ≠ 152 ∧ id ≠ 153 ∧ id ≠ 154 ∧ id ≠ 155 ∧ id ≠ 160) → (M') id k = M id k) ?_ ?_
        · intro v20 hf hfr
          refine mt_jn1 hf (fun (v23 : Int32) => (∀ id k : Nat, ((id ≠ 147 ∨ k ≠ 10) ∧ (id ≠ 147 ∨ k ≠ 11) ∧ (id ≠ 147 ∨ k ≠ 21) ∧ (id ≠ 147 ∨ k ≠ 22) ∧ (id ≠ 147 ∨ k ≠ 8) ∧ (id ≠ 147 ∨ k ≠ 9) ∧ id ≠ 148 ∧ id ≠ 149 ∧ id ≠ 150 ∧ id ≠ 151 ∧ id ≠ 152 ∧ id ≠ 153 ∧ id ≠ 154 ∧ id ≠ 155 ∧ id ≠ 160) → M13 id k = M id k) → ∀ id k : Nat, ((id ≠ 147 ∨ k ≠ 10) ∧ (id ≠ 147 ∨ k ≠ 11) ∧ (id ≠ 147 ∨ k ≠ 21) ∧ (id ≠ 147 ∨ k ≠ 22) ∧ (id ≠ 147 ∨ k ≠ 8) ∧ (id ≠ 147 ∨ k ≠ 9) ∧ id ≠ 148 ∧ id ≠ 149 ∧ id ≠ 150 ∧ id ≠ 151 ∧ id ≠ 152 ∧ id ≠ 153 ∧ id ≠ 154 ∧ id ≠ 155 ∧ id ≠ 160) → (M') id k = M id k) ?_ ?_
          · intro v23 hf hfr
            refine mt_ltI hf (fun x26 _ hf => ?_)
            refine mt_lpI2 hf (fun (x27 : Int32) (M28 : mt_M) => (∀ id k : Nat, ((id ≠ 147 ∨ k ≠ 10) ∧ (id ≠ 147 ∨ k ≠ 11) ∧ (id ≠ 147 ∨ k ≠ 21) ∧ (id ≠ 147 ∨ k ≠ 22) ∧ (id ≠ 147 ∨ k ≠ 8) ∧ (id ≠ 147 ∨ k ≠ 9) ∧ id ≠ 148 ∧ id ≠ 149 ∧ id ≠ 150 ∧ id ≠ 151 ∧ id ≠ 152 ∧ id ≠ 153 ∧ id ≠ 154 ∧ id ≠ 155 ∧ id ≠ 160) → M28 id k = M id k) → ∀ id k : Nat, ((id ≠ 147 ∨ k ≠ 10) ∧ (id ≠ 147 ∨ k ≠ 11) ∧ (id ≠ 147 ∨ k ≠ 21) ∧ (id ≠ 147 ∨ k ≠ 22) ∧ (id ≠ 147 ∨ k ≠ 8) ∧ (id ≠ 147 ∨ k ≠ 9) ∧ id ≠ 148 ∧ id ≠ 149 ∧ id ≠ 150 ∧ id ≠ 151 ∧ id ≠ 152 ∧ id ≠ 153 ∧ id ≠ 154 ∧ id ≠ 155 ∧ id ≠ 160) → (M') id k = M id k) ?_ hfr
            intro k29 ih30 x27 M28 hf hfr
            refine mt_jn0 hf ((∀ id k : Nat, ((id ≠ 147 ∨ k ≠ 10) ∧ (id ≠ 147 ∨ k ≠ 11) ∧ (id ≠ 147 ∨ k ≠ 21) ∧ (id ≠ 147 ∨ k ≠ 22) ∧ (id ≠ 147 ∨ k ≠ 8) ∧ (id ≠ 147 ∨ k ≠ 9) ∧ id ≠ 148 ∧ id ≠ 149 ∧ id ≠ 150 ∧ id ≠ 151 ∧ id ≠ 152 ∧ id ≠ 153 ∧ id ≠ 154 ∧ id ≠ 155 ∧ id ≠ 160) → M28 id k = M id k) → ∀ id k : Nat, ((id ≠ 147 ∨ k ≠ 10) ∧ (id ≠ 147 ∨ k ≠ 11) ∧ (id ≠ 147 ∨ k ≠ 21) ∧ (id ≠ 147 ∨ k ≠ 22) ∧ (id ≠ 147 ∨ k ≠ 8) ∧ (id ≠ 147 ∨ k ≠ 9) ∧ id ≠ 148 ∧ id ≠ 149 ∧ id ≠ 150 ∧ id ≠ 151 ∧ id ≠ 152 ∧ id ≠ 153 ∧ id ≠ 154 ∧ id ≠ 155 ∧ id ≠ 160) → (M') id k = M id k) ?_ ?_
            · intro hf hfr
              refine mt_b2I hf (fun r34 M35 hg33 hf => ?_)
              have hfr : ∀ id k : Nat, ((id ≠ 147 ∨ k ≠ 10) ∧ (id ≠ 147 ∨ k ≠ 11) ∧ (id ≠ 147 ∨ k ≠ 21) ∧ (id ≠ 147 ∨ k ≠ 22) ∧ (id ≠ 147 ∨ k ≠ 8) ∧ (id ≠ 147 ∨ k ≠ 9) ∧ id ≠ 148 ∧ id ≠ 149 ∧ id ≠ 150 ∧ id ≠ 151 ∧ id ≠ 152 ∧ id ≠ 153 ∧ id ≠ 154 ∧ id ≠ 155 ∧ id ≠ 160) → M35 id k = M id k := fun id k hid => (fr_X12_goesDay M28 hg33 id k (by omega)).trans (hfr id k hid)
              refine mt_ltI hf (fun x36 _ hf => ?_)
              exact ih15 x26 x36 M35 hf hfr
            · intro j31 hj32 hf
              by_cases c37 : (M28 147 8) ≤ x27
              · have hf := mt_ifT c37 hf
                exact hj32 hf hfr
              · have hf := mt_ifF c37 hf
                by_cases c38 : v20 = 0
                · have hf := mt_ifT c38 hf
                  exact hj32 hf hfr
                · have hf := mt_ifF c38 hf
                  refine mt_ciI hf (fun _ hf => ?_)
                  refine mt_ciI hf (fun _ hf => ?_)
                  refine mt_jn1 hf (fun (M41 : mt_M) => (∀ id k : Nat, ((id ≠ 147 ∨ k ≠ 10) ∧ (id ≠ 147 ∨ k ≠ 11) ∧ (id ≠ 147 ∨ k ≠ 21) ∧ (id ≠ 147 ∨ k ≠ 22) ∧ (id ≠ 147 ∨ k ≠ 8) ∧ (id ≠ 147 ∨ k ≠ 9) ∧ id ≠ 148 ∧ id ≠ 149 ∧ id ≠ 150 ∧ id ≠ 151 ∧ id ≠ 152 ∧ id ≠ 153 ∧ id ≠ 154 ∧ id ≠ 155 ∧ id ≠ 160) → M41 id k = M id k) → ∀ id k : Nat, ((id ≠ 147 ∨ k ≠ 10) ∧ (id ≠ 147 ∨ k ≠ 11) ∧ (id ≠ 147 ∨ k ≠ 21) ∧ (id ≠ 147 ∨ k ≠ 22) ∧ (id ≠ 147 ∨ k ≠ 8) ∧ (id ≠ 147 ∨ k ≠ 9) ∧ id ≠ 148 ∧ id ≠ 149 ∧ id ≠ 150 ∧ id ≠ 151 ∧ id ≠ 152 ∧ id ≠ 153 ∧ id ≠ 154 ∧ id ≠ 155 ∧ id ≠ 160) → (M') id k = M id k) ?_ ?_
                  · intro M41 hf hfr
                    refine mt_ltI hf (fun x44 _ hf => ?_)
                    exact ih30 x44 M41 hf hfr
                  · intro j42 hj43 hf
                    by_cases c45 : ((2 : Int32) * (M28 151 x27.toNatClampNeg)) ≤ (M28 152 x27.toNatClampNeg)
                    · have hf := mt_ifT c45 hf
                      exact hj43 M28 hf hfr
                    · have hf := mt_ifF c45 hf
                      refine mt_b1I hf (fun M47 hg46 hf => ?_)
                      have hfr : ∀ id k : Nat, ((id ≠ 147 ∨ k ≠ 10) ∧ (id ≠ 147 ∨ k ≠ 11) ∧ (id ≠ 147 ∨ k ≠ 21) ∧ (id ≠ 147 ∨ k ≠ 22) ∧ (id ≠ 147 ∨ k ≠ 8) ∧ (id ≠ 147 ∨ k ≠ 9) ∧ id ≠ 148 ∧ id ≠ 149 ∧ id ≠ 150 ∧ id ≠ 151 ∧ id ≠ 152 ∧ id ≠ 153 ∧ id ≠ 154 ∧ id ≠ 155 ∧ id ≠ 160) → M47 id k = M id k := fun id k hid => (fr_X12_gets x27 M28 hg46 id k (by omega)).trans (hfr id k hid)
                      exact hj43 M47 hf hfr
          · intro j24 hj25 hf
            by_cases c48 : v20 = 0
            · have hf := mt_ifT c48 hf
              exact hj25 (0 : Int32) hf hfr
            · have hf := mt_ifF c48 hf
              exact hj25 (1 : Int32) hf hfr
        · intro j21 hj22 hf
          by_cases c49 : a2 = 0
          · have hf := mt_ifT c49 hf
            by_cases c52 : ((M13 147 10) - (M13 147 10) / (2 : Int32) * (2 : Int32)) = 0
            · have hf := mt_ifT c52 hf
              exact hj22 (1 : Int32) hf hfr
            · have hf := mt_ifF c52 hf
              exact hj22 (0 : Int32) hf hfr
          · have hf := mt_ifF c49 hf
            refine mt_b1I hf (fun r51 hg50 hf => ?_)
            exact hj22 r51 hf hfr
    · have hf := mt_ifF c6 hf
      refine mt_b2I hf (fun r54 M55 hg53 hf => ?_)
      have hfr : ∀ id k : Nat, ((id ≠ 147 ∨ k ≠ 10) ∧ (id ≠ 147 ∨ k ≠ 11) ∧ (id ≠ 147 ∨ k ≠ 21) ∧ (id ≠ 147 ∨ k ≠ 22) ∧ (id ≠ 147 ∨ k ≠ 8) ∧ (id ≠ 147 ∨ k ≠ 9) ∧ id ≠ 148 ∧ id ≠ 149 ∧ id ≠ 150 ∧ id ≠ 151 ∧ id ≠ 152 ∧ id ≠ 153 ∧ id ≠ 154 ∧ id ≠ 155 ∧ id ≠ 160) → M55 id k = M id k := fun id k hid => (fr_X12_no x3 M hg53 id k (by omega)).trans (hfr id k hid)
      obtain ⟨i1, i2⟩ := mt_so2 hf
      subst i1
      subst i2
      exact hfr
  · intro j4 hj5 hf
    by_cases c56 : r2 = 0
    · have hf := mt_ifT c56 hf
      refine mt_b1I hf (fun r58 hg57 hf => ?_)
      by_cases c59 : r58 = 0
      · have hf := mt_ifT c59 hf
        exact hj5 (-2 : Int32) hf hfr
      · have hf := mt_ifF c59 hf
        exact hj5 r2 hf hfr
    · have hf := mt_ifF c56 hf
      exact hj5 r2 hf hfr
set_option maxHeartbeats 4000000 in
set_option maxRecDepth 100000 in
theorem fr_X12_paper (a1 : Int32) (M : mt_M) {r : Int32} {M' : mt_M} (hf : f_X12_paper a1 M = some (r, M')) : ∀ id k : Nat, (id ≠ 148) → (M') id k = M id k := by
  unfold f_X12_paper at hf
  have hfr : ∀ id k : Nat, (id ≠ 148) → M id k = M id k := fun _ _ _ => rfl
  refine mt_b1I hf (fun r2 hg1 hf => ?_)
  by_cases c3 : r2 = 0
  · have hf := mt_ifT c3 hf
    refine mt_b1I hf (fun r5 hg4 hf => ?_)
    refine mt_b1I hf (fun r7 hg6 hf => ?_)
    obtain ⟨i1, i2⟩ := mt_so2 hf
    subst i1
    subst i2
    exact hfr
  · have hf := mt_ifF c3 hf
    refine mt_b2I hf (fun r9 M10 hg8 hf => ?_)
    have hfr : ∀ id k : Nat, (id ≠ 148) → M10 id k = M id k := fun id k hid => (fr_X12_no r2 M hg8 id k (by omega)).trans (hfr id k hid)
    obtain ⟨i1, i2⟩ := mt_so2 hf
    subst i1
    subst i2
    exact hfr
set_option maxHeartbeats 4000000 in
set_option maxRecDepth 100000 in
theorem fr_X12_fridge (a1 : Int32) (a2 : Int32) (M : mt_M) {r : Int32} {M' : mt_M} (hf : f_X12_fridge a1 a2 M = some (r, M')) : ∀ id k : Nat, (id ≠ 148) → (M') id k = M id k := by
  unfold f_X12_fridge at hf
  have hfr : ∀ id k : Nat, (id ≠ 148) → M id k = M id k := fun _ _ _ => rfl
  refine mt_b1I hf (fun r2 hg1 hf => ?_)
  refine mt_jn1 hf (fun (x3 : Int32) => (∀ id k : Nat, (id ≠ 148) → M id k = M id k) → ∀ id k : Nat, (id ≠ 148) → (M') id k = M id k) ?_ ?_
  · intro x3 hf hfr
    by_cases c6 : x3 = 0
    · have hf := mt_ifT c6 hf
      refine mt_jn1 hf (fun (v7 : Int32) => (∀ id k : Nat, (id ≠ 148) → M id k = M id k) → ∀ id k : Nat, (id ≠ 148) → (M') id k = M id k) ?_ ?_
      · intro v7 hf hfr
        refine mt_ltI hf (fun x10 _ hf => ?_)
        refine mt_lpI3 hf (fun (x11 : Int32) (x12 : Int32) (x13 : Int32) => (∀ id k : Nat, (id ≠ 148) → M id k = M id k) → ∀ id k : Nat, (id ≠ 148) → (M') id k = M id k) ?_ hfr
        intro k14 ih15 x11 x12 x13 hf hfr
        by_cases c16 : x13 < 0
        · have hf := mt_ifT c16 hf
          by_cases c17 : a2 = 0
          · have hf := mt_ifT c17 hf
            obtain ⟨i1, i2⟩ := mt_so2 hf
            subst i1
            subst i2
            exact hfr
          · have hf := mt_ifF c17 hf
            obtain ⟨i1, i2⟩ := mt_so2 hf
            subst i1
            subst i2
            exact hfr
        · have hf := mt_ifF c16 hf
          refine mt_b1I hf (fun r19 hg18 hf => ?_)
          refine mt_jn2 hf (fun (x20 : Int32) (x21 : Int32) => (∀ id k : Nat, (id ≠ 148) → M id k = M id k) → ∀ id k : Nat, (id ≠ 148) → (M') id k = M id k) ?_ ?_
          · intro x20 x21 hf hfr
            refine mt_ltI hf (fun x24 _ hf => ?_)
            exact ih15 x20 x21 x24 hf hfr
          · intro j22 hj23 hf
            by_cases c25 : r19 = a1
            · have hf := mt_ifT c25 hf
              refine mt_ltI hf (fun x26 _ hf => ?_)
              exact hj23 x26 x13 hf hfr
            · have hf := mt_ifF c25 hf
              exact hj23 x11 x12 hf hfr
      · intro j8 hj9 hf
        by_cases c27 : (1 : Int32) ≤ (M 147 27)
        · have hf := mt_ifT c27 hf
          exact hj9 ((M 147 27) - (1 : Int32)) hf hfr
        · have hf := mt_ifF c27 hf
          exact hj9 (0 : Int32) hf hfr
    · have hf := mt_ifF c6 hf
      refine mt_b2I hf (fun r29 M30 hg28 hf => ?_)
      have hfr : ∀ id k : Nat, (id ≠ 148) → M30 id k = M id k := fun id k hid => (fr_X12_no x3 M hg28 id k (by omega)).trans (hfr id k hid)
      obtain ⟨i1, i2⟩ := mt_so2 hf
      subst i1
      subst i2
      exact hfr
  · intro j4 hj5 hf
    by_cases c31 : r2 = 0
    · have hf := mt_ifT c31 hf
      refine mt_b1I hf (fun r33 hg32 hf => ?_)
      refine mt_jn1 hf (fun (v34 : Int32) => (∀ id k : Nat, (id ≠ 148) → M id k = M id k) → ∀ id k : Nat, (id ≠ 148) → (M') id k = M id k) ?_ ?_
      · intro v34 hf hfr
        exact hj5 v34 hf hfr
      · intro j35 hj36 hf
        by_cases c37 : r33 = 0
        · have hf := mt_ifT c37 hf
          exact hj36 (-2 : Int32) hf hfr
        · have hf := mt_ifF c37 hf
          refine mt_b1I hf (fun r39 hg38 hf => ?_)
          by_cases c40 : r39 = 0
          · have hf := mt_ifT c40 hf
            exact hj36 (-3 : Int32) hf hfr
          · have hf := mt_ifF c40 hf
            exact hj36 (0 : Int32) hf hfr
    · have hf := mt_ifF c31 hf
      exact hj5 r2 hf hfr
set_option maxHeartbeats 4000000 in
set_option maxRecDepth 100000 in
theorem fr_X12_month (M : mt_M) {r : Int32} {M' : mt_M} (hf : f_X12_month M = some (r, M')) : ∀ id k : Nat, ((id ≠ 147 ∨ k ≠ 10) ∧ (id ≠ 147 ∨ k ≠ 11) ∧ (id ≠ 147 ∨ k ≠ 21) ∧ (id ≠ 147 ∨ k ≠ 22) ∧ (id ≠ 147 ∨ k ≠ 8) ∧ (id ≠ 147 ∨ k ≠ 9) ∧ id ≠ 149 ∧ id ≠ 150 ∧ id ≠ 151 ∧ id ≠ 152 ∧ id ≠ 153 ∧ id ≠ 154 ∧ id ≠ 155 ∧ id ≠ 160) → (M') id k = M id k := by
  unfold f_X12_month at hf
  have hfr : ∀ id k : Nat, ((id ≠ 147 ∨ k ≠ 10) ∧ (id ≠ 147 ∨ k ≠ 11) ∧ (id ≠ 147 ∨ k ≠ 21) ∧ (id ≠ 147 ∨ k ≠ 22) ∧ (id ≠ 147 ∨ k ≠ 8) ∧ (id ≠ 147 ∨ k ≠ 9) ∧ id ≠ 149 ∧ id ≠ 150 ∧ id ≠ 151 ∧ id ≠ 152 ∧ id ≠ 153 ∧ id ≠ 154 ∧ id ≠ 155 ∧ id ≠ 160) → M id k = M id k := fun _ _ _ => rfl
  refine mt_b1I hf (fun M2 hg1 hf => ?_)
  have hfr : ∀ id k : Nat, ((id ≠ 147 ∨ k ≠ 10) ∧ (id ≠ 147 ∨ k ≠ 11) ∧ (id ≠ 147 ∨ k ≠ 21) ∧ (id ≠ 147 ∨ k ≠ 22) ∧ (id ≠ 147 ∨ k ≠ 8) ∧ (id ≠ 147 ∨ k ≠ 9) ∧ id ≠ 149 ∧ id ≠ 150 ∧ id ≠ 151 ∧ id ≠ 152 ∧ id ≠ 153 ∧ id ≠ 154 ∧ id ≠ 155 ∧ id ≠ 160) → M2 id k = M id k := fun id k hid => (fr_X12_thinks M hg1 id k (by omega)).trans (hfr id k hid)
  refine mt_ltI hf (fun x3 _ hf => ?_)
  refine mt_lpI2 hf (fun (x4 : Int32) (M5 : mt_M) => (∀ id k : Nat, ((id ≠ 147 ∨ k ≠ 10) ∧ (id ≠ 147 ∨ k ≠ 11) ∧ (id ≠ 147 ∨ k ≠ 21) ∧ (id ≠ 147 ∨ k ≠ 22) ∧ (id ≠ 147 ∨ k ≠ 8) ∧ (id ≠ 147 ∨ k ≠ 9) ∧ id ≠ 149 ∧ id ≠ 150 ∧ id ≠ 151 ∧ id ≠ 152 ∧ id ≠ 153 ∧ id ≠ 154 ∧ id ≠ 155 ∧ id ≠ 160) → M5 id k = M id k) → ∀ id k : Nat, ((id ≠ 147 ∨ k ≠ 10) ∧ (id ≠ 147 ∨ k ≠ 11) ∧ (id ≠ 147 ∨ k ≠ 21) ∧ (id ≠ 147 ∨ k ≠ 22) ∧ (id ≠ 147 ∨ k ≠ 8) ∧ (id ≠ 147 ∨ k ≠ 9) ∧ id ≠ 149 ∧ id ≠ 150 ∧ id ≠ 151 ∧ id ≠ 152 ∧ id ≠ 153 ∧ id ≠ 154 ∧ id ≠ 155 ∧ id ≠ 160) → (M') id k = M id k) ?_ hfr
  intro k6 ih7 x4 M5 hf hfr
  by_cases c8 : (30 : Int32) ≤ x4
  · have hf := mt_ifT c8 hf
    refine mt_ltI hf (fun x9 _ hf => ?_)
    refine mt_b1I hf (fun M11 hg10 hf => ?_)
    have hfr : ∀ id k : Nat, ((id ≠ 147 ∨ k ≠ 10) ∧ (id ≠ 147 ∨ k ≠ 11) ∧ (id ≠ 147 ∨ k ≠ 21) ∧ (id ≠ 147 ∨ k ≠ 22) ∧ (id ≠ 147 ∨ k ≠ 8) ∧ (id ≠ 147 ∨ k ≠ 9) ∧ id ≠ 149 ∧ id ≠ 150 ∧ id ≠ 151 ∧ id ≠ 152 ∧ id ≠ 153 ∧ id ≠ 154 ∧ id ≠ 155 ∧ id ≠ 160) → M11 id k = M id k := fun id k hid => (fr_X12_forgets M5 hg10 id k (by omega)).trans (hfr id k hid)
    obtain ⟨i1, i2⟩ := mt_so2 hf
    subst i1
    subst i2
    exact hfr
  · have hf := mt_ifF c8 hf
    refine mt_lpI2 hf (fun (x12 : Int32) (M13 : mt_M) => (∀ id k : Nat, ((id ≠ 147 ∨ k ≠ 10) ∧ (id ≠ 147 ∨ k ≠ 11) ∧ (id ≠ 147 ∨ k ≠ 21) ∧ (id ≠ 147 ∨ k ≠ 22) ∧ (id ≠ 147 ∨ k ≠ 8) ∧ (id ≠ 147 ∨ k ≠ 9) ∧ id ≠ 149 ∧ id ≠ 150 ∧ id ≠ 151 ∧ id ≠ 152 ∧ id ≠ 153 ∧ id ≠ 154 ∧ id ≠ 155 ∧ id ≠ 160) → M13 id k = M id k) → ∀ id k : Nat, ((id ≠ 147 ∨ k ≠ 10) ∧ (id ≠ 147 ∨ k ≠ 11) ∧ (id ≠ 147 ∨ k ≠ 21) ∧ (id ≠ 147 ∨ k ≠ 22) ∧ (id ≠ 147 ∨ k ≠ 8) ∧ (id ≠ 147 ∨ k ≠ 9) ∧ id ≠ 149 ∧ id ≠ 150 ∧ id ≠ 151 ∧ id ≠ 152 ∧ id ≠ 153 ∧ id ≠ 154 ∧ id ≠ 155 ∧ id ≠ 160) → (M') id k = M id k) ?_ hfr
    intro k14 ih15 x12 M13 hf hfr
    by_cases c16 : (M13 147 8) ≤ x12
    · have hf := mt_ifT c16 hf
      refine mt_b2I hf (fun r18 M19 hg17 hf => ?_)
      have hfr : ∀ id k : Nat, ((id ≠ 147 ∨ k ≠ 10) ∧ (id ≠ 147 ∨ k ≠ 11) ∧ (id ≠ 147 ∨ k ≠ 21) ∧ (id ≠ 147 ∨ k ≠ 22) ∧ (id ≠ 147 ∨ k ≠ 8) ∧ (id ≠ 147 ∨ k ≠ 9) ∧ id ≠ 149 ∧ id ≠ 150 ∧ id ≠ 151 ∧ id ≠ 152 ∧ id ≠ 153 ∧ id ≠ 154 ∧ id ≠ 155 ∧ id ≠ 160) → M19 id k = M id k := fun id k hid => (fr_X12_goesDay M13 hg17 id k (by omega)).trans (hfr id k hid)
      refine mt_ltI hf (fun x20 _ hf => ?_)
      exact ih7 x20 M19 hf hfr
    · have hf := mt_ifF c16 hf
      refine mt_ciI hf (fun _ hf => ?_)
      refine mt_ciI hf (fun _ hf => ?_)
      refine mt_jn1 hf (fun (M23 : mt_M) => (∀ id k : Nat, ((id ≠ 147 ∨ k ≠ 10) ∧ (id ≠ 147 ∨ k ≠ 11) ∧ (id ≠ 147 ∨ k ≠ 21) ∧ (id ≠ 147 ∨ k ≠ 22) ∧ (id ≠ 147 ∨ k ≠ 8) ∧ (id ≠ 147 ∨ k ≠ 9) ∧ id ≠ 149 ∧ id ≠ 150 ∧ id ≠ 151 ∧ id ≠ 152 ∧ id ≠ 153 ∧ id ≠ 154 ∧ id ≠ 155 ∧ id ≠ 160) → M23 id k = M id k) → ∀ id k : Nat, ((id ≠ 147 ∨ k ≠ 10) ∧ (id ≠ 147 ∨ k ≠ 11) ∧ (id ≠ 147 ∨ k ≠ 21) ∧ (id ≠ 147 ∨ k ≠ 22) ∧ (id ≠ 147 ∨ k ≠ 8) ∧ (id ≠ 147 ∨ k ≠ 9) ∧ id ≠ 149 ∧ id ≠ 150 ∧ id ≠ 151 ∧ id ≠ 152 ∧ id ≠ 153 ∧ id ≠ 154 ∧ id ≠ 155 ∧ id ≠ 160) → (M') id k = M id k) ?_ ?_
      · intro M23 hf hfr
        refine mt_ltI hf (fun x26 _ hf => ?_)
        exact ih15 x26 M23 hf hfr
      · intro j24 hj25 hf
        by_cases c27 : (M13 151 x12.toNatClampNeg) ≤ (M13 152 x12.toNatClampNeg)
        · have hf := mt_ifT c27 hf
          exact hj25 M13 hf hfr
        · have hf := mt_ifF c27 hf
          refine mt_b1I hf (fun M29 hg28 hf => ?_)
          have hfr : ∀ id k : Nat, ((id ≠ 147 ∨ k ≠ 10) ∧ (id ≠ 147 ∨ k ≠ 11) ∧ (id ≠ 147 ∨ k ≠ 21) ∧ (id ≠ 147 ∨ k ≠ 22) ∧ (id ≠ 147 ∨ k ≠ 8) ∧ (id ≠ 147 ∨ k ≠ 9) ∧ id ≠ 149 ∧ id ≠ 150 ∧ id ≠ 151 ∧ id ≠ 152 ∧ id ≠ 153 ∧ id ≠ 154 ∧ id ≠ 155 ∧ id ≠ 160) → M29 id k = M id k := fun id k hid => (fr_X12_gets x12 M13 hg28 id k (by omega)).trans (hfr id k hid)
          exact hj25 M29 hf hfr
set_option maxHeartbeats 4000000 in
set_option maxRecDepth 100000 in
theorem fr_X12_changesUses (a1 : Int32) (a2 : Int32) (M : mt_M) {M' : mt_M} (hf : f_X12_changesUses a1 a2 M = some (M')) : ∀ id k : Nat, (id ≠ 151) → (M') id k = M id k := by
  unfold f_X12_changesUses at hf
  have hfr : ∀ id k : Nat, (id ≠ 151) → M id k = M id k := fun _ _ _ => rfl
  refine mt_ciI hf (fun _ hf => ?_)
  refine mt_ltI hf (fun x2 _ hf => ?_)
  refine mt_ciI hf (fun _ hf => ?_)
  refine mt_ciI hf (fun _ hf => ?_)
  refine mt_ltI hf (fun M4 eM4 hf => ?_)
  have hfr : ∀ id k : Nat, (id ≠ 151) → M4 id k = M id k := fun id k hid => (by rw [eM4]; exact mt_wr_ne2 (by omega) : M4 id k = M id k).trans (hfr id k hid)
  refine mt_ciI hf (fun _ hf => ?_)
  refine mt_ltI hf (fun M6 eM6 hf => ?_)
  have hfr : ∀ id k : Nat, (id ≠ 151) → M6 id k = M id k := fun id k hid => (by rw [eM6]; exact mt_wr_ne2 (by omega) : M6 id k = M4 id k).trans (hfr id k hid)
  have i1 := mt_so1 hf
  subst i1
  exact hfr
set_option maxHeartbeats 4000000 in
set_option maxRecDepth 100000 in
theorem fr_X12_swap (M : mt_M) {r : Int32} {M' : mt_M} (hf : f_X12_swap M = some (r, M')) : ∀ id k : Nat, ((id ≠ 147 ∨ k ≠ 10) ∧ (id ≠ 147 ∨ k ≠ 11) ∧ (id ≠ 147 ∨ k ≠ 21) ∧ (id ≠ 147 ∨ k ≠ 22) ∧ (id ≠ 147 ∨ k ≠ 24) ∧ (id ≠ 147 ∨ k ≠ 8) ∧ (id ≠ 147 ∨ k ≠ 9) ∧ id ≠ 149 ∧ id ≠ 150 ∧ id ≠ 151 ∧ id ≠ 152 ∧ id ≠ 153 ∧ id ≠ 154 ∧ id ≠ 155 ∧ id ≠ 160) → (M') id k = M id k := by
  unfold f_X12_swap at hf
  have hfr : ∀ id k : Nat, ((id ≠ 147 ∨ k ≠ 10) ∧ (id ≠ 147 ∨ k ≠ 11) ∧ (id ≠ 147 ∨ k ≠ 21) ∧ (id ≠ 147 ∨ k ≠ 22) ∧ (id ≠ 147 ∨ k ≠ 24) ∧ (id ≠ 147 ∨ k ≠ 8) ∧ (id ≠ 147 ∨ k ≠ 9) ∧ id ≠ 149 ∧ id ≠ 150 ∧ id ≠ 151 ∧ id ≠ 152 ∧ id ≠ 153 ∧ id ≠ 154 ∧ id ≠ 155 ∧ id ≠ 160) → M id k = M id k := fun _ _ _ => rfl
  refine mt_b2I hf (fun r2 M3 hg1 hf => ?_)
  have hfr : ∀ id k : Nat, ((id ≠ 147 ∨ k ≠ 10) ∧ (id ≠ 147 ∨ k ≠ 11) ∧ (id ≠ 147 ∨ k ≠ 21) ∧ (id ≠ 147 ∨ k ≠ 22) ∧ (id ≠ 147 ∨ k ≠ 24) ∧ (id ≠ 147 ∨ k ≠ 8) ∧ (id ≠ 147 ∨ k ≠ 9) ∧ id ≠ 149 ∧ id ≠ 150 ∧ id ≠ 151 ∧ id ≠ 152 ∧ id ≠ 153 ∧ id ≠ 154 ∧ id ≠ 155 ∧ id ≠ 160) → M3 id k = M id k := fun id k hid => (fr_X12_lackingIn (7 : Int32) M hg1 id k (by omega)).trans (hfr id k hid)
  refine mt_lpI4 hf (fun (x4 : Int32) (x5 : Int32) (x6 : Int32) (M7 : mt_M) => (∀ id k : Nat, ((id ≠ 147 ∨ k ≠ 10) ∧ (id ≠ 147 ∨ k ≠ 11) ∧ (id ≠ 147 ∨ k ≠ 21) ∧ (id ≠ 147 ∨ k ≠ 22) ∧ (id ≠ 147 ∨ k ≠ 24) ∧ (id ≠ 147 ∨ k ≠ 8) ∧ (id ≠ 147 ∨ k ≠ 9) ∧ id ≠ 149 ∧ id ≠ 150 ∧ id ≠ 151 ∧ id ≠ 152 ∧ id ≠ 153 ∧ id ≠ 154 ∧ id ≠ 155 ∧ id ≠ 160) → M7 id k = M id k) → ∀ id k : Nat, ((id ≠ 147 ∨ k ≠ 10) ∧ (id ≠ 147 ∨ k ≠ 11) ∧ (id ≠ 147 ∨ k ≠ 21) ∧ (id ≠ 147 ∨ k ≠ 22) ∧ (id ≠ 147 ∨ k ≠ 24) ∧ (id ≠ 147 ∨ k ≠ 8) ∧ (id ≠ 147 ∨ k ≠ 9) ∧ id ≠ 149 ∧ id ≠ 150 ∧ id ≠ 151 ∧ id ≠ 152 ∧ id ≠ 153 ∧ id ≠ 154 ∧ id ≠ 155 ∧ id ≠ 160) → (M') id k = M id k) ?_ hfr
  intro k8 ih9 x4 x5 x6 M7 hf hfr
  by_cases c10 : (M7 147 8) ≤ x6
  · have hf := mt_ifT c10 hf
    obtain ⟨i1, i2⟩ := mt_so2 hf
    subst i1
    subst i2
    exact hfr
  · have hf := mt_ifF c10 hf
    refine mt_ltI hf (fun x11 _ hf => ?_)
    refine mt_lpI4 hf (fun (x12 : Int32) (x13 : Int32) (x14 : Int32) (M15 : mt_M) => (∀ id k : Nat, ((id ≠ 147 ∨ k ≠ 10) ∧ (id ≠ 147 ∨ k ≠ 11) ∧ (id ≠ 147 ∨ k ≠ 21) ∧ (id ≠ 147 ∨ k ≠ 22) ∧ (id ≠ 147 ∨ k ≠ 24) ∧ (id ≠ 147 ∨ k ≠ 8) ∧ (id ≠ 147 ∨ k ≠ 9) ∧ id ≠ 149 ∧ id ≠ 150 ∧ id ≠ 151 ∧ id ≠ 152 ∧ id ≠ 153 ∧ id ≠ 154 ∧ id ≠ 155 ∧ id ≠ 160) → M15 id k = M id k) → ∀ id k : Nat, ((id ≠ 147 ∨ k ≠ 10) ∧ (id ≠ 147 ∨ k ≠ 11) ∧ (id ≠ 147 ∨ k ≠ 21) ∧ (id ≠ 147 ∨ k ≠ 22) ∧ (id ≠ 147 ∨ k ≠ 24) ∧ (id ≠ 147 ∨ k ≠ 8) ∧ (id ≠ 147 ∨ k ≠ 9) ∧ id ≠ 149 ∧ id ≠ 150 ∧ id ≠ 151 ∧ id ≠ 152 ∧ id ≠ 153 ∧ id ≠ 154 ∧ id ≠ 155 ∧ id ≠ 160) → (M') id k = M id k) ?_ hfr
    intro k16 ih17 x12 x13 x14 M15 hf hfr
    by_cases c18 : (M15 147 8) ≤ x14
    · have hf := mt_ifT c18 hf
      refine mt_ltI hf (fun x19 _ hf => ?_)
      exact ih9 x12 x13 x19 M15 hf hfr
    · have hf := mt_ifF c18 hf
      refine mt_b1I hf (fun M21 hg20 hf => ?_)
      have hfr : ∀ id k : Nat, ((id ≠ 147 ∨ k ≠ 10) ∧ (id ≠ 147 ∨ k ≠ 11) ∧ (id ≠ 147 ∨ k ≠ 21) ∧ (id ≠ 147 ∨ k ≠ 22) ∧ (id ≠ 147 ∨ k ≠ 24) ∧ (id ≠ 147 ∨ k ≠ 8) ∧ (id ≠ 147 ∨ k ≠ 9) ∧ id ≠ 149 ∧ id ≠ 150 ∧ id ≠ 151 ∧ id ≠ 152 ∧ id ≠ 153 ∧ id ≠ 154 ∧ id ≠ 155 ∧ id ≠ 160) → M21 id k = M id k := fun id k hid => (fr_X12_changesUses x6 x14 M15 hg20 id k (by omega)).trans (hfr id k hid)
      refine mt_b2I hf (fun r23 M24 hg22 hf => ?_)
      have hfr : ∀ id k : Nat, ((id ≠ 147 ∨ k ≠ 10) ∧ (id ≠ 147 ∨ k ≠ 11) ∧ (id ≠ 147 ∨ k ≠ 21) ∧ (id ≠ 147 ∨ k ≠ 22) ∧ (id ≠ 147 ∨ k ≠ 24) ∧ (id ≠ 147 ∨ k ≠ 8) ∧ (id ≠ 147 ∨ k ≠ 9) ∧ id ≠ 149 ∧ id ≠ 150 ∧ id ≠ 151 ∧ id ≠ 152 ∧ id ≠ 153 ∧ id ≠ 154 ∧ id ≠ 155 ∧ id ≠ 160) → M24 id k = M id k := fun id k hid => (fr_X12_lackingIn (7 : Int32) M21 hg22 id k (by omega)).trans (hfr id k hid)
      refine mt_b1I hf (fun M26 hg25 hf => ?_)
      have hfr : ∀ id k : Nat, ((id ≠ 147 ∨ k ≠ 10) ∧ (id ≠ 147 ∨ k ≠ 11) ∧ (id ≠ 147 ∨ k ≠ 21) ∧ (id ≠ 147 ∨ k ≠ 22) ∧ (id ≠ 147 ∨ k ≠ 24) ∧ (id ≠ 147 ∨ k ≠ 8) ∧ (id ≠ 147 ∨ k ≠ 9) ∧ id ≠ 149 ∧ id ≠ 150 ∧ id ≠ 151 ∧ id ≠ 152 ∧ id ≠ 153 ∧ id ≠ 154 ∧ id ≠ 155 ∧ id ≠ 160) → M26 id k = M id k := fun id k hid => (fr_X12_changesUses x6 x14 M24 hg25 id k (by omega)).trans (hfr id k hid)
      refine mt_jn2 hf (fun (x27 : Int32) (x28 : Int32) => (∀ id k : Nat, ((id ≠ 147 ∨ k ≠ 10) ∧ (id ≠ 147 ∨ k ≠ 11) ∧ (id ≠ 147 ∨ k ≠ 21) ∧ (id ≠ 147 ∨ k ≠ 22) ∧ (id ≠ 147 ∨ k ≠ 24) ∧ (id ≠ 147 ∨ k ≠ 8) ∧ (id ≠ 147 ∨ k ≠ 9) ∧ id ≠ 149 ∧ id ≠ 150 ∧ id ≠ 151 ∧ id ≠ 152 ∧ id ≠ 153 ∧ id ≠ 154 ∧ id ≠ 155 ∧ id ≠ 160) → M26 id k = M id k) → ∀ id k : Nat, ((id ≠ 147 ∨ k ≠ 10) ∧ (id ≠ 147 ∨ k ≠ 11) ∧ (id ≠ 147 ∨ k ≠ 21) ∧ (id ≠ 147 ∨ k ≠ 22) ∧ (id ≠ 147 ∨ k ≠ 24) ∧ (id ≠ 147 ∨ k ≠ 8) ∧ (id ≠ 147 ∨ k ≠ 9) ∧ id ≠ 149 ∧ id ≠ 150 ∧ id ≠ 151 ∧ id ≠ 152 ∧ id ≠ 153 ∧ id ≠ 154 ∧ id ≠ 155 ∧ id ≠ 160) → (M') id k = M id k) ?_ ?_
      · intro x27 x28 hf hfr
        refine mt_ltI hf (fun x31 _ hf => ?_)
        exact ih17 x27 x28 x31 M26 hf hfr
      · intro j29 hj30 hf
        by_cases c32 : r23 < x13
        · have hf := mt_ifT c32 hf
          refine mt_ltI hf (fun x33 _ hf => ?_)
          exact hj30 x33 r23 hf hfr
        · have hf := mt_ifF c32 hf
          exact hj30 x12 x13 hf hfr
set_option maxHeartbeats 4000000 in
set_option maxRecDepth 100000 in
theorem fr_X12_needs (a1 : Int32) (a2 : Int32) (M : mt_M) {r : Int32} {M' : mt_M} (hf : f_X12_needs a1 a2 M = some (r, M')) : ∀ id k : Nat, ((id ≠ 147 ∨ k ≠ 10) ∧ (id ≠ 147 ∨ k ≠ 11) ∧ (id ≠ 147 ∨ k ≠ 21) ∧ (id ≠ 147 ∨ k ≠ 22) ∧ (id ≠ 147 ∨ k ≠ 8) ∧ (id ≠ 147 ∨ k ≠ 9) ∧ id ≠ 148 ∧ id ≠ 149 ∧ id ≠ 150 ∧ id ≠ 151 ∧ id ≠ 152 ∧ id ≠ 153 ∧ id ≠ 154 ∧ id ≠ 155 ∧ id ≠ 160) → (M') id k = M id k := by
  unfold f_X12_needs at hf
  have hfr : ∀ id k : Nat, ((id ≠ 147 ∨ k ≠ 10) ∧ (id ≠ 147 ∨ k ≠ 11) ∧ (id ≠ 147 ∨ k ≠ 21) ∧ (id ≠ 147 ∨ k ≠ 22) ∧ (id ≠ 147 ∨ k ≠ 8) ∧ (id ≠ 147 ∨ k ≠ 9) ∧ id ≠ 148 ∧ id ≠ 149 ∧ id ≠ 150 ∧ id ≠ 151 ∧ id ≠ 152 ∧ id ≠ 153 ∧ id ≠ 154 ∧ id ≠ 155 ∧ id ≠ 160) → M id k = M id k := fun _ _ _ => rfl
  refine mt_b1I hf (fun r2 hg1 hf => ?_)
  refine mt_jn1 hf (fun (v3 : Int32) => (∀ id k : Nat, ((id ≠ 147 ∨ k ≠ 10) ∧ (id ≠ 147 ∨ k ≠ 11) ∧ (id ≠ 147 ∨ k ≠ 21) ∧ (id ≠ 147 ∨ k ≠ 22) ∧ (id ≠ 147 ∨ k ≠ 8) ∧ (id ≠ 147 ∨ k ≠ 9) ∧ id ≠ 148 ∧ id ≠ 149 ∧ id ≠ 150 ∧ id ≠ 151 ∧ id ≠ 152 ∧ id ≠ 153 ∧ id ≠ 154 ∧ id ≠ 155 ∧ id ≠ 160) → M id k = M id k) → ∀ id k : Nat, ((id ≠ 147 ∨ k ≠ 10) ∧ (id ≠ 147 ∨ k ≠ 11) ∧ (id ≠ 147 ∨ k ≠ 21) ∧ (id ≠ 147 ∨ k ≠ 22) ∧ (id ≠ 147 ∨ k ≠ 8) ∧ (id ≠ 147 ∨ k ≠ 9) ∧ id ≠ 148 ∧ id ≠ 149 ∧ id ≠ 150 ∧ id ≠ 151 ∧ id ≠ 152 ∧ id ≠ 153 ∧ id ≠ 154 ∧ id ≠ 155 ∧ id ≠ 160) → (M') id k = M id k) ?_ ?_
  · intro v3 hf hfr
    by_cases c6 : v3 = 0
    · have hf := mt_ifT c6 hf
      refine mt_ciI hf (fun _ hf => ?_)
      refine mt_ltI hf (fun x8 _ hf => ?_)
      refine mt_lpI3 hf (fun (x9 : Int32) (x10 : Int32) (M11 : mt_M) => (∀ id k : Nat, ((id ≠ 147 ∨ k ≠ 10) ∧ (id ≠ 147 ∨ k ≠ 11) ∧ (id ≠ 147 ∨ k ≠ 21) ∧ (id ≠ 147 ∨ k ≠ 22) ∧ (id ≠ 147 ∨ k ≠ 8) ∧ (id ≠ 147 ∨ k ≠ 9) ∧ id ≠ 148 ∧ id ≠ 149 ∧ id ≠ 150 ∧ id ≠ 151 ∧ id ≠ 152 ∧ id ≠ 153 ∧ id ≠ 154 ∧ id ≠ 155 ∧ id ≠ 160) → M11 id k = M id k) → ∀ id k : Nat, ((id ≠ 147 ∨ k ≠ 10) ∧ (id ≠ 147 ∨ k ≠ 11) ∧ (id ≠ 147 ∨ k ≠ 21) ∧ (id ≠ 147 ∨ k ≠ 22) ∧ (id ≠ 147 ∨ k ≠ 8) ∧ (id ≠ 147 ∨ k ≠ 9) ∧ id ≠ 148 ∧ id ≠ 149 ∧ id ≠ 150 ∧ id ≠ 151 ∧ id ≠ 152 ∧ id ≠ 153 ∧ id ≠ 154 ∧ id ≠ 155 ∧ id ≠ 160) → (M') id k = M id k) ?_ hfr
      intro k12 ih13 x9 x10 M11 hf hfr
      refine mt_jn0 hf ((∀ id k : Nat, ((id ≠ 147 ∨ k ≠ 10) ∧ (id ≠ 147 ∨ k ≠ 11) ∧ (id ≠ 147 ∨ k ≠ 21) ∧ (id ≠ 147 ∨ k ≠ 22) ∧ (id ≠ 147 ∨ k ≠ 8) ∧ (id ≠ 147 ∨ k ≠ 9) ∧ id ≠ 148 ∧ id ≠ 149 ∧ id ≠ 150 ∧ id ≠ 151 ∧ id ≠ 152 ∧ id ≠ 153 ∧ id ≠ 154 ∧ id ≠ 155 ∧ id ≠ 160) → M11 id k = M id k) → ∀ id k : Nat, ((id ≠ 147 ∨ k ≠ 10) ∧ (id ≠ 147 ∨ k ≠ 11) ∧ (id ≠ 147 ∨ k ≠ 21) ∧ (id ≠ 147 ∨ k ≠ 22) ∧ (id ≠ 147 ∨ k ≠ 8) ∧ (id ≠ 147 ∨ k ≠ 9) ∧ id ≠ 148 ∧ id ≠ 149 ∧ id ≠ 150 ∧ id ≠ 151 ∧ id ≠ 152 ∧ id ≠ 153 ∧ id ≠ 154 ∧ id ≠ 155 ∧ id ≠ 160) → (M') id k = M id k) ?_ ?_
      · intro hf hfr
        refine mt_ciI hf (fun _ hf => ?_)
        refine mt_ltI hf (fun M16 eM16 hf => ?_)
        have hfr : ∀ id k : Nat, ((id ≠ 147 ∨ k ≠ 10) ∧ (id ≠ 147 ∨ k ≠ 11) ∧ (id ≠ 147 ∨ k ≠ 21) ∧ (id ≠ 147 ∨ k ≠ 22) ∧ (id ≠ 147 ∨ k ≠ 8) ∧ (id ≠ 147 ∨ k ≠ 9) ∧ id ≠ 148 ∧ id ≠ 149 ∧ id ≠ 150 ∧ id ≠ 151 ∧ id ≠ 152 ∧ id ≠ 153 ∧ id ≠ 154 ∧ id ≠ 155 ∧ id ≠ 160) → M16 id k = M id k := fun id k hid => (by rw [eM16]; exact mt_wr_ne2 (by omega) : M16 id k = M11 id k).trans (hfr id k hid)
        obtain ⟨i1, i2⟩ := mt_so2 hf
        subst i1
        subst i2
        exact hfr
      · intro j14 hj15 hf
        by_cases c18 : (99 : Int32) < x10
        · have hf := mt_ifT c18 hf
          exact hj15 hf hfr
        · have hf := mt_ifF c18 hf
          by_cases c19 : 0 ≤ x9
          · have hf := mt_ifT c19 hf
            exact hj15 hf hfr
          · have hf := mt_ifF c19 hf
            refine mt_ciI hf (fun _ hf => ?_)
            refine mt_ltI hf (fun M20 eM20 hf => ?_)
            have hfr : ∀ id k : Nat, ((id ≠ 147 ∨ k ≠ 10) ∧ (id ≠ 147 ∨ k ≠ 11) ∧ (id ≠ 147 ∨ k ≠ 21) ∧ (id ≠ 147 ∨ k ≠ 22) ∧ (id ≠ 147 ∨ k ≠ 8) ∧ (id ≠ 147 ∨ k ≠ 9) ∧ id ≠ 148 ∧ id ≠ 149 ∧ id ≠ 150 ∧ id ≠ 151 ∧ id ≠ 152 ∧ id ≠ 153 ∧ id ≠ 154 ∧ id ≠ 155 ∧ id ≠ 160) → M20 id k = M id k := fun id k hid => (by rw [eM20]; exact mt_wr_ne2 (by omega) : M20 id k = M11 id k).trans (hfr id k hid)
            refine mt_b2I hf (fun r23 M24 hg22 hf => ?_)
            have hfr : ∀ id k : Nat, ((id ≠ 147 ∨ k ≠ 10) ∧ (id ≠ 147 ∨ k ≠ 11) ∧ (id ≠ 147 ∨ k ≠ 21) ∧ (id ≠ 147 ∨ k ≠ 22) ∧ (id ≠ 147 ∨ k ≠ 8) ∧ (id ≠ 147 ∨ k ≠ 9) ∧ id ≠ 148 ∧ id ≠ 149 ∧ id ≠ 150 ∧ id ≠ 151 ∧ id ≠ 152 ∧ id ≠ 153 ∧ id ≠ 154 ∧ id ≠ 155 ∧ id ≠ 160) → M24 id k = M id k := fun id k hid => (fr_X12_suffices a1 (0 : Int32) a2 M20 hg22 id k (by omega)).trans (hfr id k hid)
            refine mt_jn1 hf (fun (v25 : Int32) => (∀ id k : Nat, ((id ≠ 147 ∨ k ≠ 10) ∧ (id ≠ 147 ∨ k ≠ 11) ∧ (id ≠ 147 ∨ k ≠ 21) ∧ (id ≠ 147 ∨ k ≠ 22) ∧ (id ≠ 147 ∨ k ≠ 8) ∧ (id ≠ 147 ∨ k ≠ 9) ∧ id ≠ 148 ∧ id ≠ 149 ∧ id ≠ 150 ∧ id ≠ 151 ∧ id ≠ 152 ∧ id ≠ 153 ∧ id ≠ 154 ∧ id ≠ 155 ∧ id ≠ 160) → M24 id k = M id k) → ∀ id k : Nat, ((id ≠ 147 ∨ k ≠ 10) ∧ (id ≠ 147 ∨ k ≠ 11) ∧ (id ≠ 147 ∨ k ≠ 21) ∧ (id ≠ 147 ∨ k ≠ 22) ∧ (id ≠ 147 ∨ k ≠ 8) ∧ (id ≠ 147 ∨ k ≠ 9) ∧ id ≠ 148 ∧ id ≠ 149 ∧ id ≠ 150 ∧ id ≠ 151 ∧ id ≠ 152 ∧ id ≠ 153 ∧ id ≠ 154 ∧ id ≠ 155 ∧ id ≠ 160) → (M') id k = M id k) ?_ ?_
            · intro v25 hf hfr
              refine mt_ltI hf (fun x28 _ hf => ?_)
              exact ih13 v25 x28 M24 hf hfr
            · intro j26 hj27 hf
              by_cases c29 : r23 = 0
              · have hf := mt_ifT c29 hf
                exact hj27 (-9 : Int32) hf hfr
              · have hf := mt_ifF c29 hf
                exact hj27 x10 hf hfr
    · have hf := mt_ifF c6 hf
      refine mt_b2I hf (fun r31 M32 hg30 hf => ?_)
      have hfr : ∀ id k : Nat, ((id ≠ 147 ∨ k ≠ 10) ∧ (id ≠ 147 ∨ k ≠ 11) ∧ (id ≠ 147 ∨ k ≠ 21) ∧ (id ≠ 147 ∨ k ≠ 22) ∧ (id ≠ 147 ∨ k ≠ 8) ∧ (id ≠ 147 ∨ k ≠ 9) ∧ id ≠ 148 ∧ id ≠ 149 ∧ id ≠ 150 ∧ id ≠ 151 ∧ id ≠ 152 ∧ id ≠ 153 ∧ id ≠ 154 ∧ id ≠ 155 ∧ id ≠ 160) → M32 id k = M id k := fun id k hid => (fr_X12_no v3 M hg30 id k (by omega)).trans (hfr id k hid)
      obtain ⟨i1, i2⟩ := mt_so2 hf
      subst i1
      subst i2
      exact hfr
  · intro j4 hj5 hf
    by_cases c33 : r2 = 0
    · have hf := mt_ifT c33 hf
      exact hj5 (-1 : Int32) hf hfr
    · have hf := mt_ifF c33 hf
      refine mt_b1I hf (fun r35 hg34 hf => ?_)
      exact hj5 r35 hf hfr
set_option maxHeartbeats 4000000 in
set_option maxRecDepth 100000 in
theorem fr_X12_isWasted (a1 : Int32) (a2 : Int32) (a3 : Int32) (M : mt_M) {r : Int32} {M' : mt_M} (hf : f_X12_isWasted a1 a2 a3 M = some (r, M')) : ∀ id k : Nat, ((id ≠ 147 ∨ k ≠ 10) ∧ (id ≠ 147 ∨ k ≠ 11) ∧ (id ≠ 147 ∨ k ≠ 21) ∧ (id ≠ 147 ∨ k ≠ 22) ∧ (id ≠ 147 ∨ k ≠ 8) ∧ (id ≠ 147 ∨ k ≠ 9) ∧ id ≠ 149 ∧ id ≠ 150 ∧ id ≠ 151 ∧ id ≠ 152 ∧ id ≠ 153 ∧ id ≠ 154 ∧ id ≠ 155 ∧ id ≠ 160) → (M') id k = M id k := by
  unfold f_X12_isWasted at hf
  have hfr : ∀ id k : Nat, ((id ≠ 147 ∨ k ≠ 10) ∧ (id ≠ 147 ∨ k ≠ 11) ∧ (id ≠ 147 ∨ k ≠ 21) ∧ (id ≠ 147 ∨ k ≠ 22) ∧ (id ≠ 147 ∨ k ≠ 8) ∧ (id ≠ 147 ∨ k ≠ 9) ∧ id ≠ 149 ∧ id ≠ 150 ∧ id ≠ 151 ∧ id ≠ 152 ∧ id ≠ 153 ∧ id ≠ 154 ∧ id ≠ 155 ∧ id ≠ 160) → M id k = M id k := fun _ _ _ => rfl
  refine mt_b1I hf (fun M2 hg1 hf => ?_)
  have hfr : ∀ id k : Nat, ((id ≠ 147 ∨ k ≠ 10) ∧ (id ≠ 147 ∨ k ≠ 11) ∧ (id ≠ 147 ∨ k ≠ 21) ∧ (id ≠ 147 ∨ k ≠ 22) ∧ (id ≠ 147 ∨ k ≠ 8) ∧ (id ≠ 147 ∨ k ≠ 9) ∧ id ≠ 149 ∧ id ≠ 150 ∧ id ≠ 151 ∧ id ≠ 152 ∧ id ≠ 153 ∧ id ≠ 154 ∧ id ≠ 155 ∧ id ≠ 160) → M2 id k = M id k := fun id k hid => (fr_X12_thinks M hg1 id k (by omega)).trans (hfr id k hid)
  refine mt_ltI hf (fun x3 _ hf => ?_)
  refine mt_lpI2 hf (fun (x4 : Int32) (M5 : mt_M) => (∀ id k : Nat, ((id ≠ 147 ∨ k ≠ 10) ∧ (id ≠ 147 ∨ k ≠ 11) ∧ (id ≠ 147 ∨ k ≠ 21) ∧ (id ≠ 147 ∨ k ≠ 22) ∧ (id ≠ 147 ∨ k ≠ 8) ∧ (id ≠ 147 ∨ k ≠ 9) ∧ id ≠ 149 ∧ id ≠ 150 ∧ id ≠ 151 ∧ id ≠ 152 ∧ id ≠ 153 ∧ id ≠ 154 ∧ id ≠ 155 ∧ id ≠ 160) → M5 id k = M id k) → ∀ id k : Nat, ((id ≠ 147 ∨ k ≠ 10) ∧ (id ≠ 147 ∨ k ≠ 11) ∧ (id ≠ 147 ∨ k ≠ 21) ∧ (id ≠ 147 ∨ k ≠ 22) ∧ (id ≠ 147 ∨ k ≠ 8) ∧ (id ≠ 147 ∨ k ≠ 9) ∧ id ≠ 149 ∧ id ≠ 150 ∧ id ≠ 151 ∧ id ≠ 152 ∧ id ≠ 153 ∧ id ≠ 154 ∧ id ≠ 155 ∧ id ≠ 160) → (M') id k = M id k) ?_ hfr
  intro k6 ih7 x4 M5 hf hfr
  by_cases c8 : a2 ≤ x4
  · have hf := mt_ifT c8 hf
    refine mt_lpI2 hf (fun (x9 : Int32) (M10 : mt_M) => (∀ id k : Nat, ((id ≠ 147 ∨ k ≠ 10) ∧ (id ≠ 147 ∨ k ≠ 11) ∧ (id ≠ 147 ∨ k ≠ 21) ∧ (id ≠ 147 ∨ k ≠ 22) ∧ (id ≠ 147 ∨ k ≠ 8) ∧ (id ≠ 147 ∨ k ≠ 9) ∧ id ≠ 149 ∧ id ≠ 150 ∧ id ≠ 151 ∧ id ≠ 152 ∧ id ≠ 153 ∧ id ≠ 154 ∧ id ≠ 155 ∧ id ≠ 160) → M10 id k = M id k) → ∀ id k : Nat, ((id ≠ 147 ∨ k ≠ 10) ∧ (id ≠ 147 ∨ k ≠ 11) ∧ (id ≠ 147 ∨ k ≠ 21) ∧ (id ≠ 147 ∨ k ≠ 22) ∧ (id ≠ 147 ∨ k ≠ 8) ∧ (id ≠ 147 ∨ k ≠ 9) ∧ id ≠ 149 ∧ id ≠ 150 ∧ id ≠ 151 ∧ id ≠ 152 ∧ id ≠ 153 ∧ id ≠ 154 ∧ id ≠ 155 ∧ id ≠ 160) → (M') id k = M id k) ?_ hfr
    intro k11 ih12 x9 M10 hf hfr
    by_cases c13 : a3 ≤ x9
    · have hf := mt_ifT c13 hf
      refine mt_jn1 hf (fun (v14 : Int32) => (∀ id k : Nat, ((id ≠ 147 ∨ k ≠ 10) ∧ (id ≠ 147 ∨ k ≠ 11) ∧ (id ≠ 147 ∨ k ≠ 21) ∧ (id ≠ 147 ∨ k ≠ 22) ∧ (id ≠ 147 ∨ k ≠ 8) ∧ (id ≠ 147 ∨ k ≠ 9) ∧ id ≠ 149 ∧ id ≠ 150 ∧ id ≠ 151 ∧ id ≠ 152 ∧ id ≠ 153 ∧ id ≠ 154 ∧ id ≠ 155 ∧ id ≠ 160) → M10 id k = M id k) → ∀ id k : Nat, ((id ≠ 147 ∨ k ≠ 10) ∧ (id ≠ 147 ∨ k ≠ 11) ∧ (id ≠ 147 ∨ k ≠ 21) ∧ (id ≠ 147 ∨ k ≠ 22) ∧ (id ≠ 147 ∨ k ≠ 8) ∧ (id ≠ 147 ∨ k ≠ 9) ∧ id ≠ 149 ∧ id ≠ 150 ∧ id ≠ 151 ∧ id ≠ 152 ∧ id ≠ 153 ∧ id ≠ 154 ∧ id ≠ 155 ∧ id ≠ 160) → (M') id k = M id k) ?_ ?_
      · intro v14 hf hfr
        refine mt_b1I hf (fun M18 hg17 hf => ?_)
        have hfr : ∀ id k : Nat, ((id ≠ 147 ∨ k ≠ 10) ∧ (id ≠ 147 ∨ k ≠ 11) ∧ (id ≠ 147 ∨ k ≠ 21) ∧ (id ≠ 147 ∨ k ≠ 22) ∧ (id ≠ 147 ∨ k ≠ 8) ∧ (id ≠ 147 ∨ k ≠ 9) ∧ id ≠ 149 ∧ id ≠ 150 ∧ id ≠ 151 ∧ id ≠ 152 ∧ id ≠ 153 ∧ id ≠ 154 ∧ id ≠ 155 ∧ id ≠ 160) → M18 id k = M id k := fun id k hid => (fr_X12_forgets M10 hg17 id k (by omega)).trans (hfr id k hid)
        refine mt_ckI hf (fun _ hf => ?_)
        obtain ⟨i1, i2⟩ := mt_so2 hf
        subst i1
        subst i2
        exact hfr
      · intro j15 hj16 hf
        by_cases c20 : (M10 155 (2 : Int32).toNatClampNeg) ≤ x3
        · have hf := mt_ifT c20 hf
          exact hj16 (0 : Int32) hf hfr
        · have hf := mt_ifF c20 hf
          exact hj16 (1 : Int32) hf hfr
    · have hf := mt_ifF c13 hf
      refine mt_b2I hf (fun r22 M23 hg21 hf => ?_)
      have hfr : ∀ id k : Nat, ((id ≠ 147 ∨ k ≠ 10) ∧ (id ≠ 147 ∨ k ≠ 11) ∧ (id ≠ 147 ∨ k ≠ 21) ∧ (id ≠ 147 ∨ k ≠ 22) ∧ (id ≠ 147 ∨ k ≠ 8) ∧ (id ≠ 147 ∨ k ≠ 9) ∧ id ≠ 149 ∧ id ≠ 150 ∧ id ≠ 151 ∧ id ≠ 152 ∧ id ≠ 153 ∧ id ≠ 154 ∧ id ≠ 155 ∧ id ≠ 160) → M23 id k = M id k := fun id k hid => (fr_X12_usesOf a1 M10 hg21 id k (by omega)).trans (hfr id k hid)
      refine mt_ltI hf (fun x24 _ hf => ?_)
      exact ih12 x24 M23 hf hfr
  · have hf := mt_ifF c8 hf
    refine mt_b1I hf (fun M26 hg25 hf => ?_)
    have hfr : ∀ id k : Nat, ((id ≠ 147 ∨ k ≠ 10) ∧ (id ≠ 147 ∨ k ≠ 11) ∧ (id ≠ 147 ∨ k ≠ 21) ∧ (id ≠ 147 ∨ k ≠ 22) ∧ (id ≠ 147 ∨ k ≠ 8) ∧ (id ≠ 147 ∨ k ≠ 9) ∧ id ≠ 149 ∧ id ≠ 150 ∧ id ≠ 151 ∧ id ≠ 152 ∧ id ≠ 153 ∧ id ≠ 154 ∧ id ≠ 155 ∧ id ≠ 160) → M26 id k = M id k := fun id k hid => (fr_X12_gets a1 M5 hg25 id k (by omega)).trans (hfr id k hid)
    refine mt_ltI hf (fun x27 _ hf => ?_)
    exact ih7 x27 M26 hf hfr
set_option maxHeartbeats 4000000 in
set_option maxRecDepth 100000 in
theorem fr_X12_noWaste (a1 : Int32) (a2 : Int32) (M : mt_M) {r : Int32} {M' : mt_M} (hf : f_X12_noWaste a1 a2 M = some (r, M')) : ∀ id k : Nat, ((id ≠ 147 ∨ k ≠ 10) ∧ (id ≠ 147 ∨ k ≠ 11) ∧ (id ≠ 147 ∨ k ≠ 21) ∧ (id ≠ 147 ∨ k ≠ 22) ∧ (id ≠ 147 ∨ k ≠ 8) ∧ (id ≠ 147 ∨ k ≠ 9) ∧ id ≠ 148 ∧ id ≠ 149 ∧ id ≠ 150 ∧ id ≠ 151 ∧ id ≠ 152 ∧ id ≠ 153 ∧ id ≠ 154 ∧ id ≠ 155 ∧ id ≠ 160) → (M') id k = M id k := by
  unfold f_X12_noWaste at hf
  have hfr : ∀ id k : Nat, ((id ≠ 147 ∨ k ≠ 10) ∧ (id ≠ 147 ∨ k ≠ 11) ∧ (id ≠ 147 ∨ k ≠ 21) ∧ (id ≠ 147 ∨ k ≠ 22) ∧ (id ≠ 147 ∨ k ≠ 8) ∧ (id ≠ 147 ∨ k ≠ 9) ∧ id ≠ 148 ∧ id ≠ 149 ∧ id ≠ 150 ∧ id ≠ 151 ∧ id ≠ 152 ∧ id ≠ 153 ∧ id ≠ 154 ∧ id ≠ 155 ∧ id ≠ 160) → M id k = M id k := fun _ _ _ => rfl
  refine mt_b1I hf (fun r2 hg1 hf => ?_)
  refine mt_jn1 hf (fun (v3 : Int32) => (∀ id k : Nat, ((id ≠ 147 ∨ k ≠ 10) ∧ (id ≠ 147 ∨ k ≠ 11) ∧ (id ≠ 147 ∨ k ≠ 21) ∧ (id ≠ 147 ∨ k ≠ 22) ∧ (id ≠ 147 ∨ k ≠ 8) ∧ (id ≠ 147 ∨ k ≠ 9) ∧ id ≠ 148 ∧ id ≠ 149 ∧ id ≠ 150 ∧ id ≠ 151 ∧ id ≠ 152 ∧ id ≠ 153 ∧ id ≠ 154 ∧ id ≠ 155 ∧ id ≠ 160) → M id k = M id k) → ∀ id k : Nat, ((id ≠ 147 ∨ k ≠ 10) ∧ (id ≠ 147 ∨ k ≠ 11) ∧ (id ≠ 147 ∨ k ≠ 21) ∧ (id ≠ 147 ∨ k ≠ 22) ∧ (id ≠ 147 ∨ k ≠ 8) ∧ (id ≠ 147 ∨ k ≠ 9) ∧ id ≠ 148 ∧ id ≠ 149 ∧ id ≠ 150 ∧ id ≠ 151 ∧ id ≠ 152 ∧ id ≠ 153 ∧ id ≠ 154 ∧ id ≠ 155 ∧ id ≠ 160) → (M') id k = M id k) ?_ ?_
  · intro v3 hf hfr
    by_cases c6 : v3 = 0
    · have hf := mt_ifT c6 hf
      refine mt_lpI3 hf (fun (x7 : Int32) (x8 : Int32) (M9 : mt_M) => (∀ id k : Nat, ((id ≠ 147 ∨ k ≠ 10) ∧ (id ≠ 147 ∨ k ≠ 11) ∧ (id ≠ 147 ∨ k ≠ 21) ∧ (id ≠ 147 ∨ k ≠ 22) ∧ (id ≠ 147 ∨ k ≠ 8) ∧ (id ≠ 147 ∨ k ≠ 9) ∧ id ≠ 148 ∧ id ≠ 149 ∧ id ≠ 150 ∧ id ≠ 151 ∧ id ≠ 152 ∧ id ≠ 153 ∧ id ≠ 154 ∧ id ≠ 155 ∧ id ≠ 160) → M9 id k = M id k) → ∀ id k : Nat, ((id ≠ 147 ∨ k ≠ 10) ∧ (id ≠ 147 ∨ k ≠ 11) ∧ (id ≠ 147 ∨ k ≠ 21) ∧ (id ≠ 147 ∨ k ≠ 22) ∧ (id ≠ 147 ∨ k ≠ 8) ∧ (id ≠ 147 ∨ k ≠ 9) ∧ id ≠ 148 ∧ id ≠ 149 ∧ id ≠ 150 ∧ id ≠ 151 ∧ id ≠ 152 ∧ id ≠ 153 ∧ id ≠ 154 ∧ id ≠ 155 ∧ id ≠ 160) → (M') id k = M id k) ?_ hfr
      intro k10 ih11 x7 x8 M9 hf hfr
      by_cases c12 : (20 : Int32) < x8
      · have hf := mt_ifT c12 hf
        obtain ⟨i1, i2⟩ := mt_so2 hf
        subst i1
        subst i2
        exact hfr
      · have hf := mt_ifF c12 hf
        refine mt_b2I hf (fun r14 M15 hg13 hf => ?_)
        have hfr : ∀ id k : Nat, ((id ≠ 147 ∨ k ≠ 10) ∧ (id ≠ 147 ∨ k ≠ 11) ∧ (id ≠ 147 ∨ k ≠ 21) ∧ (id ≠ 147 ∨ k ≠ 22) ∧ (id ≠ 147 ∨ k ≠ 8) ∧ (id ≠ 147 ∨ k ≠ 9) ∧ id ≠ 148 ∧ id ≠ 149 ∧ id ≠ 150 ∧ id ≠ 151 ∧ id ≠ 152 ∧ id ≠ 153 ∧ id ≠ 154 ∧ id ≠ 155 ∧ id ≠ 160) → M15 id k = M id k := fun id k hid => (fr_X12_isWasted a1 (0 : Int32) a2 M9 hg13 id k (by omega)).trans (hfr id k hid)
        by_cases c16 : r14 = 0
        · have hf := mt_ifT c16 hf
          refine mt_b2I hf (fun r18 M19 hg17 hf => ?_)
          have hfr : ∀ id k : Nat, ((id ≠ 147 ∨ k ≠ 10) ∧ (id ≠ 147 ∨ k ≠ 11) ∧ (id ≠ 147 ∨ k ≠ 21) ∧ (id ≠ 147 ∨ k ≠ 22) ∧ (id ≠ 147 ∨ k ≠ 8) ∧ (id ≠ 147 ∨ k ≠ 9) ∧ id ≠ 148 ∧ id ≠ 149 ∧ id ≠ 150 ∧ id ≠ 151 ∧ id ≠ 152 ∧ id ≠ 153 ∧ id ≠ 154 ∧ id ≠ 155 ∧ id ≠ 160) → M19 id k = M id k := fun id k hid => (fr_X12_isWasted a1 x8 a2 M15 hg17 id k (by omega)).trans (hfr id k hid)
          refine mt_jn1 hf (fun (v20 : Int32) => (∀ id k : Nat, ((id ≠ 147 ∨ k ≠ 10) ∧ (id ≠ 147 ∨ k ≠ 11) ∧ (id ≠ 147 ∨ k ≠ 21) ∧ (id ≠ 147 ∨ k ≠ 22) ∧ (id ≠ 147 ∨ k ≠ 8) ∧ (id ≠ 147 ∨ k ≠ 9) ∧ id ≠ 148 ∧ id ≠ 149 ∧ id ≠ 150 ∧ id ≠ 151 ∧ id ≠ 152 ∧ id ≠ 153 ∧ id ≠ 154 ∧ id ≠ 155 ∧ id ≠ 160) → M19 id k = M id k) → ∀ id k : Nat, ((id ≠ 147 ∨ k ≠ 10) ∧ (id ≠ 147 ∨ k ≠ 11) ∧ (id ≠ 147 ∨ k ≠ 21) ∧ (id ≠ 147 ∨ k ≠ 22) ∧ (id ≠ 147 ∨ k ≠ 8) ∧ (id ≠ 147 ∨ k ≠ 9) ∧ id ≠ 148 ∧ id ≠ 149 ∧ id ≠ 150 ∧ id ≠ 151 ∧ id ≠ 152 ∧ id ≠ 153 ∧ id ≠ 154 ∧ id ≠ 155 ∧ id ≠ 160) → (M') id k = M id k) ?_ ?_
          · intro v20 hf hfr
            refine mt_ltI hf (fun x23 _ hf => ?_)
            exact ih11 v20 x23 M19 hf hfr
          · intro j21 hj22 hf
            by_cases c24 : r18 = 0
            · have hf := mt_ifT c24 hf
              exact hj22 x8 hf hfr
            · have hf := mt_ifF c24 hf
              exact hj22 x7 hf hfr
        · have hf := mt_ifF c16 hf
          obtain ⟨i1, i2⟩ := mt_so2 hf
          subst i1
          subst i2
          exact hfr
    · have hf := mt_ifF c6 hf
      refine mt_b2I hf (fun r26 M27 hg25 hf => ?_)
      have hfr : ∀ id k : Nat, ((id ≠ 147 ∨ k ≠ 10) ∧ (id ≠ 147 ∨ k ≠ 11) ∧ (id ≠ 147 ∨ k ≠ 21) ∧ (id ≠ 147 ∨ k ≠ 22) ∧ (id ≠ 147 ∨ k ≠ 8) ∧ (id ≠ 147 ∨ k ≠ 9) ∧ id ≠ 148 ∧ id ≠ 149 ∧ id ≠ 150 ∧ id ≠ 151 ∧ id ≠ 152 ∧ id ≠ 153 ∧ id ≠ 154 ∧ id ≠ 155 ∧ id ≠ 160) → M27 id k = M id k := fun id k hid => (fr_X12_no v3 M hg25 id k (by omega)).trans (hfr id k hid)
      obtain ⟨i1, i2⟩ := mt_so2 hf
      subst i1
      subst i2
      exact hfr
  · intro j4 hj5 hf
    by_cases c28 : r2 = 0
    · have hf := mt_ifT c28 hf
      exact hj5 (-1 : Int32) hf hfr
    · have hf := mt_ifF c28 hf
      refine mt_b1I hf (fun r30 hg29 hf => ?_)
      exact hj5 r30 hf hfr
set_option maxHeartbeats 4000000 in
set_option maxRecDepth 100000 in
theorem fr_X12_cheapestOf (a1 : Int32) (a2 : Int32) (M : mt_M) {r : Int32} {M' : mt_M} (hf : f_X12_cheapestOf a1 a2 M = some (r, M')) : ∀ id k : Nat, ((id ≠ 147 ∨ k ≠ 10) ∧ (id ≠ 147 ∨ k ≠ 11) ∧ (id ≠ 147 ∨ k ≠ 21) ∧ (id ≠ 147 ∨ k ≠ 22) ∧ (id ≠ 147 ∨ k ≠ 8) ∧ (id ≠ 147 ∨ k ≠ 9) ∧ id ≠ 149 ∧ id ≠ 150 ∧ id ≠ 151 ∧ id ≠ 152 ∧ id ≠ 153 ∧ id ≠ 154 ∧ id ≠ 155 ∧ id ≠ 160) → (M') id k = M id k := by
  unfold f_X12_cheapestOf at hf
  have hfr : ∀ id k : Nat, ((id ≠ 147 ∨ k ≠ 10) ∧ (id ≠ 147 ∨ k ≠ 11) ∧ (id ≠ 147 ∨ k ≠ 21) ∧ (id ≠ 147 ∨ k ≠ 22) ∧ (id ≠ 147 ∨ k ≠ 8) ∧ (id ≠ 147 ∨ k ≠ 9) ∧ id ≠ 149 ∧ id ≠ 150 ∧ id ≠ 151 ∧ id ≠ 152 ∧ id ≠ 153 ∧ id ≠ 154 ∧ id ≠ 155 ∧ id ≠ 160) → M id k = M id k := fun _ _ _ => rfl
  refine mt_lpI3 hf (fun (x1 : Int32) (x2 : Int32) (M3 : mt_M) => (∀ id k : Nat, ((id ≠ 147 ∨ k ≠ 10) ∧ (id ≠ 147 ∨ k ≠ 11) ∧ (id ≠ 147 ∨ k ≠ 21) ∧ (id ≠ 147 ∨ k ≠ 22) ∧ (id ≠ 147 ∨ k ≠ 8) ∧ (id ≠ 147 ∨ k ≠ 9) ∧ id ≠ 149 ∧ id ≠ 150 ∧ id ≠ 151 ∧ id ≠ 152 ∧ id ≠ 153 ∧ id ≠ 154 ∧ id ≠ 155 ∧ id ≠ 160) → M3 id k = M id k) → ∀ id k : Nat, ((id ≠ 147 ∨ k ≠ 10) ∧ (id ≠ 147 ∨ k ≠ 11) ∧ (id ≠ 147 ∨ k ≠ 21) ∧ (id ≠ 147 ∨ k ≠ 22) ∧ (id ≠ 147 ∨ k ≠ 8) ∧ (id ≠ 147 ∨ k ≠ 9) ∧ id ≠ 149 ∧ id ≠ 150 ∧ id ≠ 151 ∧ id ≠ 152 ∧ id ≠ 153 ∧ id ≠ 154 ∧ id ≠ 155 ∧ id ≠ 160) → (M') id k = M id k) ?_ hfr
  intro k4 ih5 x1 x2 M3 hf hfr
  by_cases c6 : (M3 147 8) ≤ x2
  · have hf := mt_ifT c6 hf
    obtain ⟨i1, i2⟩ := mt_so2 hf
    subst i1
    subst i2
    exact hfr
  · have hf := mt_ifF c6 hf
    refine mt_b1I hf (fun r8 hg7 hf => ?_)
    refine mt_jn2 hf (fun (x9 : Int32) (M10 : mt_M) => (∀ id k : Nat, ((id ≠ 147 ∨ k ≠ 10) ∧ (id ≠ 147 ∨ k ≠ 11) ∧ (id ≠ 147 ∨ k ≠ 21) ∧ (id ≠ 147 ∨ k ≠ 22) ∧ (id ≠ 147 ∨ k ≠ 8) ∧ (id ≠ 147 ∨ k ≠ 9) ∧ id ≠ 149 ∧ id ≠ 150 ∧ id ≠ 151 ∧ id ≠ 152 ∧ id ≠ 153 ∧ id ≠ 154 ∧ id ≠ 155 ∧ id ≠ 160) → M10 id k = M id k) → ∀ id k : Nat, ((id ≠ 147 ∨ k ≠ 10) ∧ (id ≠ 147 ∨ k ≠ 11) ∧ (id ≠ 147 ∨ k ≠ 21) ∧ (id ≠ 147 ∨ k ≠ 22) ∧ (id ≠ 147 ∨ k ≠ 8) ∧ (id ≠ 147 ∨ k ≠ 9) ∧ id ≠ 149 ∧ id ≠ 150 ∧ id ≠ 151 ∧ id ≠ 152 ∧ id ≠ 153 ∧ id ≠ 154 ∧ id ≠ 155 ∧ id ≠ 160) → (M') id k = M id k) ?_ ?_
    · intro x9 M10 hf hfr
      refine mt_ltI hf (fun x13 _ hf => ?_)
      exact ih5 x9 x13 M10 hf hfr
    · intro j11 hj12 hf
      by_cases c14 : r8 = 0
      · have hf := mt_ifT c14 hf
        exact hj12 x1 M3 hf hfr
      · have hf := mt_ifF c14 hf
        refine mt_b2I hf (fun r16 M17 hg15 hf => ?_)
        have hfr : ∀ id k : Nat, ((id ≠ 147 ∨ k ≠ 10) ∧ (id ≠ 147 ∨ k ≠ 11) ∧ (id ≠ 147 ∨ k ≠ 21) ∧ (id ≠ 147 ∨ k ≠ 22) ∧ (id ≠ 147 ∨ k ≠ 8) ∧ (id ≠ 147 ∨ k ≠ 9) ∧ id ≠ 149 ∧ id ≠ 150 ∧ id ≠ 151 ∧ id ≠ 152 ∧ id ≠ 153 ∧ id ≠ 154 ∧ id ≠ 155 ∧ id ≠ 160) → M17 id k = M id k := fun id k hid => (fr_X12_packsFor x2 a2 M3 hg15 id k (by omega)).trans (hfr id k hid)
        by_cases c18 : r16 = (99 : Int32)
        · have hf := mt_ifT c18 hf
          exact hj12 x1 M17 hf hfr
        · have hf := mt_ifF c18 hf
          refine mt_jn1 hf (fun (M19 : mt_M) => (∀ id k : Nat, ((id ≠ 147 ∨ k ≠ 10) ∧ (id ≠ 147 ∨ k ≠ 11) ∧ (id ≠ 147 ∨ k ≠ 21) ∧ (id ≠ 147 ∨ k ≠ 22) ∧ (id ≠ 147 ∨ k ≠ 8) ∧ (id ≠ 147 ∨ k ≠ 9) ∧ id ≠ 149 ∧ id ≠ 150 ∧ id ≠ 151 ∧ id ≠ 152 ∧ id ≠ 153 ∧ id ≠ 154 ∧ id ≠ 155 ∧ id ≠ 160) → M19 id k = M id k) → ∀ id k : Nat, ((id ≠ 147 ∨ k ≠ 10) ∧ (id ≠ 147 ∨ k ≠ 11) ∧ (id ≠ 147 ∨ k ≠ 21) ∧ (id ≠ 147 ∨ k ≠ 22) ∧ (id ≠ 147 ∨ k ≠ 8) ∧ (id ≠ 147 ∨ k ≠ 9) ∧ id ≠ 149 ∧ id ≠ 150 ∧ id ≠ 151 ∧ id ≠ 152 ∧ id ≠ 153 ∧ id ≠ 154 ∧ id ≠ 155 ∧ id ≠ 160) → (M') id k = M id k) ?_ ?_
          · intro M19 hf hfr
            exact hj12 x2 M19 hf hfr
          · intro j20 hj21 hf
            by_cases c22 : x1 < 0
            · have hf := mt_ifT c22 hf
              exact hj21 M17 hf hfr
            · have hf := mt_ifF c22 hf
              refine mt_b2I hf (fun r24 M25 hg23 hf => ?_)
              have hfr : ∀ id k : Nat, ((id ≠ 147 ∨ k ≠ 10) ∧ (id ≠ 147 ∨ k ≠ 11) ∧ (id ≠ 147 ∨ k ≠ 21) ∧ (id ≠ 147 ∨ k ≠ 22) ∧ (id ≠ 147 ∨ k ≠ 8) ∧ (id ≠ 147 ∨ k ≠ 9) ∧ id ≠ 149 ∧ id ≠ 150 ∧ id ≠ 151 ∧ id ≠ 152 ∧ id ≠ 153 ∧ id ≠ 154 ∧ id ≠ 155 ∧ id ≠ 160) → M25 id k = M id k := fun id k hid => (fr_X12_packsFor x2 a2 M17 hg23 id k (by omega)).trans (hfr id k hid)
              refine mt_b1I hf (fun r27 hg26 hf => ?_)
              refine mt_b2I hf (fun r29 M30 hg28 hf => ?_)
              have hfr : ∀ id k : Nat, ((id ≠ 147 ∨ k ≠ 10) ∧ (id ≠ 147 ∨ k ≠ 11) ∧ (id ≠ 147 ∨ k ≠ 21) ∧ (id ≠ 147 ∨ k ≠ 22) ∧ (id ≠ 147 ∨ k ≠ 8) ∧ (id ≠ 147 ∨ k ≠ 9) ∧ id ≠ 149 ∧ id ≠ 150 ∧ id ≠ 151 ∧ id ≠ 152 ∧ id ≠ 153 ∧ id ≠ 154 ∧ id ≠ 155 ∧ id ≠ 160) → M30 id k = M id k := fun id k hid => (fr_X12_packsFor x1 a2 M25 hg28 id k (by omega)).trans (hfr id k hid)
              refine mt_b1I hf (fun r32 hg31 hf => ?_)
              by_cases c33 : (r29 * r32) ≤ (r24 * r27)
              · have hf := mt_ifT c33 hf
                exact hj12 x1 M30 hf hfr
              · have hf := mt_ifF c33 hf
                exact hj21 M30 hf hfr
set_option maxHeartbeats 4000000 in
set_option maxRecDepth 100000 in
theorem fr_X12_cheapest (a1 : Int32) (a2 : Int32) (M : mt_M) {r : Int32} {M' : mt_M} (hf : f_X12_cheapest a1 a2 M = some (r, M')) : ∀ id k : Nat, ((id ≠ 147 ∨ k ≠ 10) ∧ (id ≠ 147 ∨ k ≠ 11) ∧ (id ≠ 147 ∨ k ≠ 21) ∧ (id ≠ 147 ∨ k ≠ 22) ∧ (id ≠ 147 ∨ k ≠ 8) ∧ (id ≠ 147 ∨ k ≠ 9) ∧ id ≠ 148 ∧ id ≠ 149 ∧ id ≠ 150 ∧ id ≠ 151 ∧ id ≠ 152 ∧ id ≠ 153 ∧ id ≠ 154 ∧ id ≠ 155 ∧ id ≠ 160) → (M') id k = M id k := by
  unfold f_X12_cheapest at hf
  have hfr : ∀ id k : Nat, ((id ≠ 147 ∨ k ≠ 10) ∧ (id ≠ 147 ∨ k ≠ 11) ∧ (id ≠ 147 ∨ k ≠ 21) ∧ (id ≠ 147 ∨ k ≠ 22) ∧ (id ≠ 147 ∨ k ≠ 8) ∧ (id ≠ 147 ∨ k ≠ 9) ∧ id ≠ 148 ∧ id ≠ 149 ∧ id ≠ 150 ∧ id ≠ 151 ∧ id ≠ 152 ∧ id ≠ 153 ∧ id ≠ 154 ∧ id ≠ 155 ∧ id ≠ 160) → M id k = M id k := fun _ _ _ => rfl
  refine mt_jn1 hf (fun (v1 : Int32) => (∀ id k : Nat, ((id ≠ 147 ∨ k ≠ 10) ∧ (id ≠ 147 ∨ k ≠ 11) ∧ (id ≠ 147 ∨ k ≠ 21) ∧ (id ≠ 147 ∨ k ≠ 22) ∧ (id ≠ 147 ∨ k ≠ 8) ∧ (id ≠ 147 ∨ k ≠ 9) ∧ id ≠ 148 ∧ id ≠ 149 ∧ id ≠ 150 ∧ id ≠ 151 ∧ id ≠ 152 ∧ id ≠ 153 ∧ id ≠ 154 ∧ id ≠ 155 ∧ id ≠ 160) → M id k = M id k) → ∀ id k : Nat, ((id ≠ 147 ∨ k ≠ 10) ∧ (id ≠ 147 ∨ k ≠ 11) ∧ (id ≠ 147 ∨ k ≠ 21) ∧ (id ≠ 147 ∨ k ≠ 22) ∧ (id ≠ 147 ∨ k ≠ 8) ∧ (id ≠ 147 ∨ k ≠ 9) ∧ id ≠ 148 ∧ id ≠ 149 ∧ id ≠ 150 ∧ id ≠ 151 ∧ id ≠ 152 ∧ id ≠ 153 ∧ id ≠ 154 ∧ id ≠ 155 ∧ id ≠ 160) → (M') id k = M id k) ?_ ?_
  · intro v1 hf hfr
    by_cases c4 : v1 = 0
    · have hf := mt_ifT c4 hf
      refine mt_lpI4 hf (fun (x5 : Int32) (x6 : Int32) (x7 : Int32) (M8 : mt_M) => (∀ id k : Nat, ((id ≠ 147 ∨ k ≠ 10) ∧ (id ≠ 147 ∨ k ≠ 11) ∧ (id ≠ 147 ∨ k ≠ 21) ∧ (id ≠ 147 ∨ k ≠ 22) ∧ (id ≠ 147 ∨ k ≠ 8) ∧ (id ≠ 147 ∨ k ≠ 9) ∧ id ≠ 148 ∧ id ≠ 149 ∧ id ≠ 150 ∧ id ≠ 151 ∧ id ≠ 152 ∧ id ≠ 153 ∧ id ≠ 154 ∧ id ≠ 155 ∧ id ≠ 160) → M8 id k = M id k) → ∀ id k : Nat, ((id ≠ 147 ∨ k ≠ 10) ∧ (id ≠ 147 ∨ k ≠ 11) ∧ (id ≠ 147 ∨ k ≠ 21) ∧ (id ≠ 147 ∨ k ≠ 22) ∧ (id ≠ 147 ∨ k ≠ 8) ∧ (id ≠ 147 ∨ k ≠ 9) ∧ id ≠ 148 ∧ id ≠ 149 ∧ id ≠ 150 ∧ id ≠ 151 ∧ id ≠ 152 ∧ id ≠ 153 ∧ id ≠ 154 ∧ id ≠ 155 ∧ id ≠ 160) → (M') id k = M id k) ?_ hfr
      intro k9 ih10 x5 x6 x7 M8 hf hfr
      by_cases c11 : a1 ≤ x7
      · have hf := mt_ifT c11 hf
        obtain ⟨i1, i2⟩ := mt_so2 hf
        subst i1
        subst i2
        exact hfr
      · have hf := mt_ifF c11 hf
        refine mt_b2I hf (fun r13 M14 hg12 hf => ?_)
        have hfr : ∀ id k : Nat, ((id ≠ 147 ∨ k ≠ 10) ∧ (id ≠ 147 ∨ k ≠ 11) ∧ (id ≠ 147 ∨ k ≠ 21) ∧ (id ≠ 147 ∨ k ≠ 22) ∧ (id ≠ 147 ∨ k ≠ 8) ∧ (id ≠ 147 ∨ k ≠ 9) ∧ id ≠ 148 ∧ id ≠ 149 ∧ id ≠ 150 ∧ id ≠ 151 ∧ id ≠ 152 ∧ id ≠ 153 ∧ id ≠ 154 ∧ id ≠ 155 ∧ id ≠ 160) → M14 id k = M id k := fun id k hid => (fr_X12_cheapestOf x5 a2 M8 hg12 id k (by omega)).trans (hfr id k hid)
        by_cases c15 : 0 ≤ r13
        · have hf := mt_ifT c15 hf
          refine mt_ltI hf (fun x16 _ hf => ?_)
          refine mt_b2I hf (fun r18 M19 hg17 hf => ?_)
          have hfr : ∀ id k : Nat, ((id ≠ 147 ∨ k ≠ 10) ∧ (id ≠ 147 ∨ k ≠ 11) ∧ (id ≠ 147 ∨ k ≠ 21) ∧ (id ≠ 147 ∨ k ≠ 22) ∧ (id ≠ 147 ∨ k ≠ 8) ∧ (id ≠ 147 ∨ k ≠ 9) ∧ id ≠ 148 ∧ id ≠ 149 ∧ id ≠ 150 ∧ id ≠ 151 ∧ id ≠ 152 ∧ id ≠ 153 ∧ id ≠ 154 ∧ id ≠ 155 ∧ id ≠ 160) → M19 id k = M id k := fun id k hid => (fr_X12_packsFor r13 a2 M14 hg17 id k (by omega)).trans (hfr id k hid)
          refine mt_b1I hf (fun r21 hg20 hf => ?_)
          refine mt_ltI hf (fun x22 _ hf => ?_)
          refine mt_ltI hf (fun x23 _ hf => ?_)
          exact ih10 x16 x22 x23 M19 hf hfr
        · have hf := mt_ifF c15 hf
          obtain ⟨i1, i2⟩ := mt_so2 hf
          subst i1
          subst i2
          exact hfr
    · have hf := mt_ifF c4 hf
      refine mt_b2I hf (fun r25 M26 hg24 hf => ?_)
      have hfr : ∀ id k : Nat, ((id ≠ 147 ∨ k ≠ 10) ∧ (id ≠ 147 ∨ k ≠ 11) ∧ (id ≠ 147 ∨ k ≠ 21) ∧ (id ≠ 147 ∨ k ≠ 22) ∧ (id ≠ 147 ∨ k ≠ 8) ∧ (id ≠ 147 ∨ k ≠ 9) ∧ id ≠ 148 ∧ id ≠ 149 ∧ id ≠ 150 ∧ id ≠ 151 ∧ id ≠ 152 ∧ id ≠ 153 ∧ id ≠ 154 ∧ id ≠ 155 ∧ id ≠ 160) → M26 id k = M id k := fun id k hid => (fr_X12_no v1 M hg24 id k (by omega)).trans (hfr id k hid)
      obtain ⟨i1, i2⟩ := mt_so2 hf
      subst i1
      subst i2
      exact hfr
  · intro j2 hj3 hf
    refine mt_jn0 hf ((∀ id k : Nat, ((id ≠ 147 ∨ k ≠ 10) ∧ (id ≠ 147 ∨ k ≠ 11) ∧ (id ≠ 147 ∨ k ≠ 21) ∧ (id ≠ 147 ∨ k ≠ 22) ∧ (id ≠ 147 ∨ k ≠ 8) ∧ (id ≠ 147 ∨ k ≠ 9) ∧ id ≠ 148 ∧ id ≠ 149 ∧ id ≠ 150 ∧ id ≠ 151 ∧ id ≠ 152 ∧ id ≠ 153 ∧ id ≠ 154 ∧ id ≠ 155 ∧ id ≠ 160) → M id k = M id k) → ∀ id k : Nat, ((id ≠ 147 ∨ k ≠ 10) ∧ (id ≠ 147 ∨ k ≠ 11) ∧ (id ≠ 147 ∨ k ≠ 21) ∧ (id ≠ 147 ∨ k ≠ 22) ∧ (id ≠ 147 ∨ k ≠ 8) ∧ (id ≠ 147 ∨ k ≠ 9) ∧ id ≠ 148 ∧ id ≠ 149 ∧ id ≠ 150 ∧ id ≠ 151 ∧ id ≠ 152 ∧ id ≠ 153 ∧ id ≠ 154 ∧ id ≠ 155 ∧ id ≠ 160) → (M') id k = M id k) ?_ ?_
    · intro hf hfr
      exact hj3 (-4 : Int32) hf hfr
    · intro j27 hj28 hf
      by_cases c29 : a1 < 0
      · have hf := mt_ifT c29 hf
        exact hj28 hf hfr
      · have hf := mt_ifF c29 hf
        by_cases c30 : (1 : Int32) ≤ a2
        · have hf := mt_ifT c30 hf
          refine mt_jn0 hf ((∀ id k : Nat, ((id ≠ 147 ∨ k ≠ 10) ∧ (id ≠ 147 ∨ k ≠ 11) ∧ (id ≠ 147 ∨ k ≠ 21) ∧ (id ≠ 147 ∨ k ≠ 22) ∧ (id ≠ 147 ∨ k ≠ 8) ∧ (id ≠ 147 ∨ k ≠ 9) ∧ id ≠ 148 ∧ id ≠ 149 ∧ id ≠ 150 ∧ id ≠ 151 ∧ id ≠ 152 ∧ id ≠ 153 ∧ id ≠ 154 ∧ id ≠ 155 ∧ id ≠ 160) → M id k = M id k) → ∀ id k : Nat, ((id ≠ 147 ∨ k ≠ 10) ∧ (id ≠ 147 ∨ k ≠ 11) ∧ (id ≠ 147 ∨ k ≠ 21) ∧ (id ≠ 147 ∨ k ≠ 22) ∧ (id ≠ 147 ∨ k ≠ 8) ∧ (id ≠ 147 ∨ k ≠ 9) ∧ id ≠ 148 ∧ id ≠ 149 ∧ id ≠ 150 ∧ id ≠ 151 ∧ id ≠ 152 ∧ id ≠ 153 ∧ id ≠ 154 ∧ id ≠ 155 ∧ id ≠ 160) → (M') id k = M id k) ?_ ?_
          · intro hf hfr
            exact hj3 (-6 : Int32) hf hfr
          · intro j31 hj32 hf
            by_cases c33 : (7 : Int32) < a1
            · have hf := mt_ifT c33 hf
              exact hj32 hf hfr
            · have hf := mt_ifF c33 hf
              by_cases c34 : a2 ≤ (30 : Int32)
              · have hf := mt_ifT c34 hf
                exact hj3 (0 : Int32) hf hfr
              · have hf := mt_ifF c34 hf
                exact hj32 hf hfr
        · have hf := mt_ifF c30 hf
          exact hj28 hf hfr
set_option maxHeartbeats 4000000 in
set_option maxRecDepth 100000 in
theorem fr_X12_isEnough (a1 : Int32) (a2 : Int32) (M : mt_M) {r : Int32} {M' : mt_M} (hf : f_X12_isEnough a1 a2 M = some (r, M')) : ∀ id k : Nat, ((id ≠ 147 ∨ k ≠ 10) ∧ (id ≠ 147 ∨ k ≠ 11) ∧ (id ≠ 147 ∨ k ≠ 21) ∧ (id ≠ 147 ∨ k ≠ 22) ∧ (id ≠ 147 ∨ k ≠ 8) ∧ (id ≠ 147 ∨ k ≠ 9) ∧ id ≠ 149 ∧ id ≠ 150 ∧ id ≠ 151 ∧ id ≠ 152 ∧ id ≠ 153 ∧ id ≠ 154 ∧ id ≠ 155 ∧ id ≠ 160) → (M') id k = M id k := by
  unfold f_X12_isEnough at hf
  have hfr : ∀ id k : Nat, ((id ≠ 147 ∨ k ≠ 10) ∧ (id ≠ 147 ∨ k ≠ 11) ∧ (id ≠ 147 ∨ k ≠ 21) ∧ (id ≠ 147 ∨ k ≠ 22) ∧ (id ≠ 147 ∨ k ≠ 8) ∧ (id ≠ 147 ∨ k ≠ 9) ∧ id ≠ 149 ∧ id ≠ 150 ∧ id ≠ 151 ∧ id ≠ 152 ∧ id ≠ 153 ∧ id ≠ 154 ∧ id ≠ 155 ∧ id ≠ 160) → M id k = M id k := fun _ _ _ => rfl
  refine mt_b1I hf (fun M2 hg1 hf => ?_)
  have hfr : ∀ id k : Nat, ((id ≠ 147 ∨ k ≠ 10) ∧ (id ≠ 147 ∨ k ≠ 11) ∧ (id ≠ 147 ∨ k ≠ 21) ∧ (id ≠ 147 ∨ k ≠ 22) ∧ (id ≠ 147 ∨ k ≠ 8) ∧ (id ≠ 147 ∨ k ≠ 9) ∧ id ≠ 149 ∧ id ≠ 150 ∧ id ≠ 151 ∧ id ≠ 152 ∧ id ≠ 153 ∧ id ≠ 154 ∧ id ≠ 155 ∧ id ≠ 160) → M2 id k = M id k := fun id k hid => (fr_X12_thinks M hg1 id k (by omega)).trans (hfr id k hid)
  refine mt_ltI hf (fun x3 _ hf => ?_)
  refine mt_lpI2 hf (fun (x4 : Int32) (M5 : mt_M) => (∀ id k : Nat, ((id ≠ 147 ∨ k ≠ 10) ∧ (id ≠ 147 ∨ k ≠ 11) ∧ (id ≠ 147 ∨ k ≠ 21) ∧ (id ≠ 147 ∨ k ≠ 22) ∧ (id ≠ 147 ∨ k ≠ 8) ∧ (id ≠ 147 ∨ k ≠ 9) ∧ id ≠ 149 ∧ id ≠ 150 ∧ id ≠ 151 ∧ id ≠ 152 ∧ id ≠ 153 ∧ id ≠ 154 ∧ id ≠ 155 ∧ id ≠ 160) → M5 id k = M id k) → ∀ id k : Nat, ((id ≠ 147 ∨ k ≠ 10) ∧ (id ≠ 147 ∨ k ≠ 11) ∧ (id ≠ 147 ∨ k ≠ 21) ∧ (id ≠ 147 ∨ k ≠ 22) ∧ (id ≠ 147 ∨ k ≠ 8) ∧ (id ≠ 147 ∨ k ≠ 9) ∧ id ≠ 149 ∧ id ≠ 150 ∧ id ≠ 151 ∧ id ≠ 152 ∧ id ≠ 153 ∧ id ≠ 154 ∧ id ≠ 155 ∧ id ≠ 160) → (M') id k = M id k) ?_ hfr
  intro k6 ih7 x4 M5 hf hfr
  by_cases c8 : (30 : Int32) ≤ x4
  · have hf := mt_ifT c8 hf
    refine mt_jn1 hf (fun (v9 : Int32) => (∀ id k : Nat, ((id ≠ 147 ∨ k ≠ 10) ∧ (id ≠ 147 ∨ k ≠ 11) ∧ (id ≠ 147 ∨ k ≠ 21) ∧ (id ≠ 147 ∨ k ≠ 22) ∧ (id ≠ 147 ∨ k ≠ 8) ∧ (id ≠ 147 ∨ k ≠ 9) ∧ id ≠ 149 ∧ id ≠ 150 ∧ id ≠ 151 ∧ id ≠ 152 ∧ id ≠ 153 ∧ id ≠ 154 ∧ id ≠ 155 ∧ id ≠ 160) → M5 id k = M id k) → ∀ id k : Nat, ((id ≠ 147 ∨ k ≠ 10) ∧ (id ≠ 147 ∨ k ≠ 11) ∧ (id ≠ 147 ∨ k ≠ 21) ∧ (id ≠ 147 ∨ k ≠ 22) ∧ (id ≠ 147 ∨ k ≠ 8) ∧ (id ≠ 147 ∨ k ≠ 9) ∧ id ≠ 149 ∧ id ≠ 150 ∧ id ≠ 151 ∧ id ≠ 152 ∧ id ≠ 153 ∧ id ≠ 154 ∧ id ≠ 155 ∧ id ≠ 160) → (M') id k = M id k) ?_ ?_
    · intro v9 hf hfr
      refine mt_b1I hf (fun M13 hg12 hf => ?_)
      have hfr : ∀ id k : Nat, ((id ≠ 147 ∨ k ≠ 10) ∧ (id ≠ 147 ∨ k ≠ 11) ∧ (id ≠ 147 ∨ k ≠ 21) ∧ (id ≠ 147 ∨ k ≠ 22) ∧ (id ≠ 147 ∨ k ≠ 8) ∧ (id ≠ 147 ∨ k ≠ 9) ∧ id ≠ 149 ∧ id ≠ 150 ∧ id ≠ 151 ∧ id ≠ 152 ∧ id ≠ 153 ∧ id ≠ 154 ∧ id ≠ 155 ∧ id ≠ 160) → M13 id k = M id k := fun id k hid => (fr_X12_forgets M5 hg12 id k (by omega)).trans (hfr id k hid)
      refine mt_ckI hf (fun _ hf => ?_)
      obtain ⟨i1, i2⟩ := mt_so2 hf
      subst i1
      subst i2
      exact hfr
    · intro j10 hj11 hf
      by_cases c15 : (M5 155 (1 : Int32).toNatClampNeg) = x3
      · have hf := mt_ifT c15 hf
        exact hj11 (1 : Int32) hf hfr
      · have hf := mt_ifF c15 hf
        exact hj11 (0 : Int32) hf hfr
  · have hf := mt_ifF c8 hf
    refine mt_lpI2 hf (fun (x16 : Int32) (M17 : mt_M) => (∀ id k : Nat, ((id ≠ 147 ∨ k ≠ 10) ∧ (id ≠ 147 ∨ k ≠ 11) ∧ (id ≠ 147 ∨ k ≠ 21) ∧ (id ≠ 147 ∨ k ≠ 22) ∧ (id ≠ 147 ∨ k ≠ 8) ∧ (id ≠ 147 ∨ k ≠ 9) ∧ id ≠ 149 ∧ id ≠ 150 ∧ id ≠ 151 ∧ id ≠ 152 ∧ id ≠ 153 ∧ id ≠ 154 ∧ id ≠ 155 ∧ id ≠ 160) → M17 id k = M id k) → ∀ id k : Nat, ((id ≠ 147 ∨ k ≠ 10) ∧ (id ≠ 147 ∨ k ≠ 11) ∧ (id ≠ 147 ∨ k ≠ 21) ∧ (id ≠ 147 ∨ k ≠ 22) ∧ (id ≠ 147 ∨ k ≠ 8) ∧ (id ≠ 147 ∨ k ≠ 9) ∧ id ≠ 149 ∧ id ≠ 150 ∧ id ≠ 151 ∧ id ≠ 152 ∧ id ≠ 153 ∧ id ≠ 154 ∧ id ≠ 155 ∧ id ≠ 160) → (M') id k = M id k) ?_ hfr
    intro k18 ih19 x16 M17 hf hfr
    refine mt_jn0 hf ((∀ id k : Nat, ((id ≠ 147 ∨ k ≠ 10) ∧ (id ≠ 147 ∨ k ≠ 11) ∧ (id ≠ 147 ∨ k ≠ 21) ∧ (id ≠ 147 ∨ k ≠ 22) ∧ (id ≠ 147 ∨ k ≠ 8) ∧ (id ≠ 147 ∨ k ≠ 9) ∧ id ≠ 149 ∧ id ≠ 150 ∧ id ≠ 151 ∧ id ≠ 152 ∧ id ≠ 153 ∧ id ≠ 154 ∧ id ≠ 155 ∧ id ≠ 160) → M17 id k = M id k) → ∀ id k : Nat, ((id ≠ 147 ∨ k ≠ 10) ∧ (id ≠ 147 ∨ k ≠ 11) ∧ (id ≠ 147 ∨ k ≠ 21) ∧ (id ≠ 147 ∨ k ≠ 22) ∧ (id ≠ 147 ∨ k ≠ 8) ∧ (id ≠ 147 ∨ k ≠ 9) ∧ id ≠ 149 ∧ id ≠ 150 ∧ id ≠ 151 ∧ id ≠ 152 ∧ id ≠ 153 ∧ id ≠ 154 ∧ id ≠ 155 ∧ id ≠ 160) → (M') id k = M id k) ?_ ?_
    · intro hf hfr
      refine mt_b2I hf (fun r23 M24 hg22 hf => ?_)
      have hfr : ∀ id k : Nat, ((id ≠ 147 ∨ k ≠ 10) ∧ (id ≠ 147 ∨ k ≠ 11) ∧ (id ≠ 147 ∨ k ≠ 21) ∧ (id ≠ 147 ∨ k ≠ 22) ∧ (id ≠ 147 ∨ k ≠ 8) ∧ (id ≠ 147 ∨ k ≠ 9) ∧ id ≠ 149 ∧ id ≠ 150 ∧ id ≠ 151 ∧ id ≠ 152 ∧ id ≠ 153 ∧ id ≠ 154 ∧ id ≠ 155 ∧ id ≠ 160) → M24 id k = M id k := fun id k hid => (fr_X12_goesDay M17 hg22 id k (by omega)).trans (hfr id k hid)
      refine mt_ltI hf (fun x25 _ hf => ?_)
      exact ih7 x25 M24 hf hfr
    · intro j20 hj21 hf
      by_cases c26 : (a1 * (M17 147 8)) ≤ x16
      · have hf := mt_ifT c26 hf
        exact hj21 hf hfr
      · have hf := mt_ifF c26 hf
        refine mt_ckI hf (fun _ hf => ?_)
        by_cases c28 : (x4 - x4 / a2 * a2) = 0
        · have hf := mt_ifT c28 hf
          refine mt_ckI hf (fun _ hf => ?_)
          refine mt_b1I hf (fun M31 hg30 hf => ?_)
          have hfr : ∀ id k : Nat, ((id ≠ 147 ∨ k ≠ 10) ∧ (id ≠ 147 ∨ k ≠ 11) ∧ (id ≠ 147 ∨ k ≠ 21) ∧ (id ≠ 147 ∨ k ≠ 22) ∧ (id ≠ 147 ∨ k ≠ 8) ∧ (id ≠ 147 ∨ k ≠ 9) ∧ id ≠ 149 ∧ id ≠ 150 ∧ id ≠ 151 ∧ id ≠ 152 ∧ id ≠ 153 ∧ id ≠ 154 ∧ id ≠ 155 ∧ id ≠ 160) → M31 id k = M id k := fun id k hid => (fr_X12_gets (x16 - x16 / (M17 147 8) * (M17 147 8)) M17 hg30 id k (by omega)).trans (hfr id k hid)
          refine mt_ltI hf (fun x32 _ hf => ?_)
          exact ih19 x32 M31 hf hfr
        · have hf := mt_ifF c28 hf
          exact hj21 hf hfr
set_option maxHeartbeats 4000000 in
set_option maxRecDepth 100000 in
theorem fr_X12_interval (a1 : Int32) (M : mt_M) {r : Int32} {M' : mt_M} (hf : f_X12_interval a1 M = some (r, M')) : ∀ id k : Nat, ((id ≠ 147 ∨ k ≠ 10) ∧ (id ≠ 147 ∨ k ≠ 11) ∧ (id ≠ 147 ∨ k ≠ 21) ∧ (id ≠ 147 ∨ k ≠ 22) ∧ (id ≠ 147 ∨ k ≠ 8) ∧ (id ≠ 147 ∨ k ≠ 9) ∧ id ≠ 148 ∧ id ≠ 149 ∧ id ≠ 150 ∧ id ≠ 151 ∧ id ≠ 152 ∧ id ≠ 153 ∧ id ≠ 154 ∧ id ≠ 155 ∧ id ≠ 160) → (M') id k = M id k := by
  unfold f_X12_interval at hf
  have hfr : ∀ id k : Nat, ((id ≠ 147 ∨ k ≠ 10) ∧ (id ≠ 147 ∨ k ≠ 11) ∧ (id ≠ 147 ∨ k ≠ 21) ∧ (id ≠ 147 ∨ k ≠ 22) ∧ (id ≠ 147 ∨ k ≠ 8) ∧ (id ≠ 147 ∨ k ≠ 9) ∧ id ≠ 148 ∧ id ≠ 149 ∧ id ≠ 150 ∧ id ≠ 151 ∧ id ≠ 152 ∧ id ≠ 153 ∧ id ≠ 154 ∧ id ≠ 155 ∧ id ≠ 160) → M id k = M id k := fun _ _ _ => rfl
  refine mt_b1I hf (fun r2 hg1 hf => ?_)
  by_cases c3 : r2 = 0
  · have hf := mt_ifT c3 hf
    refine mt_lpI2 hf (fun (x4 : Int32) (M5 : mt_M) => (∀ id k : Nat, ((id ≠ 147 ∨ k ≠ 10) ∧ (id ≠ 147 ∨ k ≠ 11) ∧ (id ≠ 147 ∨ k ≠ 21) ∧ (id ≠ 147 ∨ k ≠ 22) ∧ (id ≠ 147 ∨ k ≠ 8) ∧ (id ≠ 147 ∨ k ≠ 9) ∧ id ≠ 148 ∧ id ≠ 149 ∧ id ≠ 150 ∧ id ≠ 151 ∧ id ≠ 152 ∧ id ≠ 153 ∧ id ≠ 154 ∧ id ≠ 155 ∧ id ≠ 160) → M5 id k = M id k) → ∀ id k : Nat, ((id ≠ 147 ∨ k ≠ 10) ∧ (id ≠ 147 ∨ k ≠ 11) ∧ (id ≠ 147 ∨ k ≠ 21) ∧ (id ≠ 147 ∨ k ≠ 22) ∧ (id ≠ 147 ∨ k ≠ 8) ∧ (id ≠ 147 ∨ k ≠ 9) ∧ id ≠ 148 ∧ id ≠ 149 ∧ id ≠ 150 ∧ id ≠ 151 ∧ id ≠ 152 ∧ id ≠ 153 ∧ id ≠ 154 ∧ id ≠ 155 ∧ id ≠ 160) → (M') id k = M id k) ?_ hfr
    intro k6 ih7 x4 M5 hf hfr
    by_cases c8 : x4 ≤ 0
    · have hf := mt_ifT c8 hf
      obtain ⟨i1, i2⟩ := mt_so2 hf
      subst i1
      subst i2
      exact hfr
    · have hf := mt_ifF c8 hf
      refine mt_b2I hf (fun r10 M11 hg9 hf => ?_)
      have hfr : ∀ id k : Nat, ((id ≠ 147 ∨ k ≠ 10) ∧ (id ≠ 147 ∨ k ≠ 11) ∧ (id ≠ 147 ∨ k ≠ 21) ∧ (id ≠ 147 ∨ k ≠ 22) ∧ (id ≠ 147 ∨ k ≠ 8) ∧ (id ≠ 147 ∨ k ≠ 9) ∧ id ≠ 148 ∧ id ≠ 149 ∧ id ≠ 150 ∧ id ≠ 151 ∧ id ≠ 152 ∧ id ≠ 153 ∧ id ≠ 154 ∧ id ≠ 155 ∧ id ≠ 160) → M11 id k = M id k := fun id k hid => (fr_X12_isEnough a1 x4 M5 hg9 id k (by omega)).trans (hfr id k hid)
      by_cases c12 : r10 = 0
      · have hf := mt_ifT c12 hf
        refine mt_ltI hf (fun x13 _ hf => ?_)
        exact ih7 x13 M11 hf hfr
      · have hf := mt_ifF c12 hf
        obtain ⟨i1, i2⟩ := mt_so2 hf
        subst i1
        subst i2
        exact hfr
  · have hf := mt_ifF c3 hf
    refine mt_b2I hf (fun r15 M16 hg14 hf => ?_)
    have hfr : ∀ id k : Nat, ((id ≠ 147 ∨ k ≠ 10) ∧ (id ≠ 147 ∨ k ≠ 11) ∧ (id ≠ 147 ∨ k ≠ 21) ∧ (id ≠ 147 ∨ k ≠ 22) ∧ (id ≠ 147 ∨ k ≠ 8) ∧ (id ≠ 147 ∨ k ≠ 9) ∧ id ≠ 148 ∧ id ≠ 149 ∧ id ≠ 150 ∧ id ≠ 151 ∧ id ≠ 152 ∧ id ≠ 153 ∧ id ≠ 154 ∧ id ≠ 155 ∧ id ≠ 160) → M16 id k = M id k := fun id k hid => (fr_X12_no r2 M hg14 id k (by omega)).trans (hfr id k hid)
    obtain ⟨i1, i2⟩ := mt_so2 hf
    subst i1
    subst i2
    exact hfr
set_option maxHeartbeats 4000000 in
set_option maxRecDepth 100000 in
theorem fr_X12_skew (a1 : Int32) (M : mt_M) {r : Int32} {M' : mt_M} (hf : f_X12_skew a1 M = some (r, M')) : ∀ id k : Nat, (id ≠ 148) → (M') id k = M id k := by
  unfold f_X12_skew at hf
  have hfr : ∀ id k : Nat, (id ≠ 148) → M id k = M id k := fun _ _ _ => rfl
  refine mt_b1I hf (fun r2 hg1 hf => ?_)
  by_cases c3 : r2 = 0
  · have hf := mt_ifT c3 hf
    refine mt_lpI2 hf (fun (x4 : Int32) (x5 : Int32) => (∀ id k : Nat, (id ≠ 148) → M id k = M id k) → ∀ id k : Nat, (id ≠ 148) → (M') id k = M id k) ?_ hfr
    intro k6 ih7 x4 x5 hf hfr
    by_cases c8 : (M 147 8) ≤ x5
    · have hf := mt_ifT c8 hf
      obtain ⟨i1, i2⟩ := mt_so2 hf
      subst i1
      subst i2
      exact hfr
    · have hf := mt_ifF c8 hf
      refine mt_ciI hf (fun _ hf => ?_)
      refine mt_ciI hf (fun _ hf => ?_)
      refine mt_jn1 hf (fun (v11 : Int32) => (∀ id k : Nat, (id ≠ 148) → M id k = M id k) → ∀ id k : Nat, (id ≠ 148) → (M') id k = M id k) ?_ ?_
      · intro v11 hf hfr
        refine mt_jn1 hf (fun (v14 : Int32) => (∀ id k : Nat, (id ≠ 148) → M id k = M id k) → ∀ id k : Nat, (id ≠ 148) → (M') id k = M id k) ?_ ?_
        · intro v14 hf hfr
          refine mt_ciI hf (fun _ hf => ?_)
          refine mt_b1I hf (fun r19 hg18 hf => ?_)
          refine mt_jn1 hf (fun (v20 : Int32) => (∀ id k : Nat, (id ≠ 148) → M id k = M id k) → ∀ id k : Nat, (id ≠ 148) → (M') id k = M id k) ?_ ?_
          · intro v20 hf hfr
            refine mt_ltI hf (fun x23 _ hf => ?_)
            refine mt_ltI hf (fun x24 _ hf => ?_)
            exact ih7 x23 x24 hf hfr
          · intro j21 hj22 hf
            by_cases c25 : (M 153 v14.toNatClampNeg) = r19
            · have hf := mt_ifT c25 hf
              exact hj22 (0 : Int32) hf hfr
            · have hf := mt_ifF c25 hf
              exact hj22 ((1 : Int32) <<< (x5 &&& 31)) hf hfr
        · intro j15 hj16 hf
          by_cases c26 : v11 = 0
          · have hf := mt_ifT c26 hf
            exact hj16 x5 hf hfr
          · have hf := mt_ifF c26 hf
            exact hj16 ((7 : Int32) + x5) hf hfr
      · intro j12 hj13 hf
        by_cases c27 : ((M 154 ((7 : Int32) + x5).toNatClampNeg) + a1) ≤ (M 154 x5.toNatClampNeg)
        · have hf := mt_ifT c27 hf
          exact hj13 (0 : Int32) hf hfr
        · have hf := mt_ifF c27 hf
          exact hj13 (1 : Int32) hf hfr
  · have hf := mt_ifF c3 hf
    refine mt_b2I hf (fun r29 M30 hg28 hf => ?_)
    have hfr : ∀ id k : Nat, (id ≠ 148) → M30 id k = M id k := fun id k hid => (fr_X12_no r2 M hg28 id k (by omega)).trans (hfr id k hid)
    obtain ⟨i1, i2⟩ := mt_so2 hf
    subst i1
    subst i2
    exact hfr
set_option maxHeartbeats 4000000 in
set_option maxRecDepth 100000 in
theorem fr_X12_close (a1 : Int32) (M : mt_M) {r : Int32} {M' : mt_M} (hf : f_X12_close a1 M = some (r, M')) : ∀ id k : Nat, (id ≠ 148) → (M') id k = M id k := by
  unfold f_X12_close at hf
  have hfr : ∀ id k : Nat, (id ≠ 148) → M id k = M id k := fun _ _ _ => rfl
  refine mt_b1I hf (fun r2 hg1 hf => ?_)
  by_cases c3 : r2 = 0
  · have hf := mt_ifT c3 hf
    refine mt_lpI2 hf (fun (x4 : Int32) (x5 : Int32) => (∀ id k : Nat, (id ≠ 148) → M id k = M id k) → ∀ id k : Nat, (id ≠ 148) → (M') id k = M id k) ?_ hfr
    intro k6 ih7 x4 x5 hf hfr
    by_cases c8 : (M 147 8) ≤ x5
    · have hf := mt_ifT c8 hf
      obtain ⟨i1, i2⟩ := mt_so2 hf
      subst i1
      subst i2
      exact hfr
    · have hf := mt_ifF c8 hf
      refine mt_ciI hf (fun _ hf => ?_)
      refine mt_ciI hf (fun _ hf => ?_)
      refine mt_b1I hf (fun r12 hg11 hf => ?_)
      refine mt_jn1 hf (fun (v13 : Int32) => (∀ id k : Nat, (id ≠ 148) → M id k = M id k) → ∀ id k : Nat, (id ≠ 148) → (M') id k = M id k) ?_ ?_
      · intro v13 hf hfr
        refine mt_ltI hf (fun x16 _ hf => ?_)
        refine mt_ltI hf (fun x17 _ hf => ?_)
        exact ih7 x16 x17 hf hfr
      · intro j14 hj15 hf
        refine mt_jn0 hf ((∀ id k : Nat, (id ≠ 148) → M id k = M id k) → ∀ id k : Nat, (id ≠ 148) → (M') id k = M id k) ?_ ?_
        · intro hf hfr
          exact hj15 (0 : Int32) hf hfr
        · intro j18 hj19 hf
          by_cases c20 : r12 = 0
          · have hf := mt_ifT c20 hf
            exact hj19 hf hfr
          · have hf := mt_ifF c20 hf
            refine mt_ciI hf (fun _ hf => ?_)
            refine mt_ciI hf (fun _ hf => ?_)
            by_cases c23 : ((M 154 x5.toNatClampNeg) + (M 154 ((7 : Int32) + x5).toNatClampNeg)) ≤ 0
            · have hf := mt_ifT c23 hf
              exact hj19 hf hfr
            · have hf := mt_ifF c23 hf
              exact hj15 ((1 : Int32) <<< (x5 &&& 31)) hf hfr
  · have hf := mt_ifF c3 hf
    refine mt_b2I hf (fun r25 M26 hg24 hf => ?_)
    have hfr : ∀ id k : Nat, (id ≠ 148) → M26 id k = M id k := fun id k hid => (fr_X12_no r2 M hg24 id k (by omega)).trans (hfr id k hid)
    obtain ⟨i1, i2⟩ := mt_so2 hf
    subst i1
    subst i2
    exact hfr
set_option maxHeartbeats 4000000 in
set_option maxRecDepth 100000 in
theorem fr_X12_biscuits (a1 : Int32) (M : mt_M) {r : Int32} {M' : mt_M} (hf : f_X12_biscuits a1 M = some (r, M')) : ∀ id k : Nat, (id ≠ 148 ∧ id ≠ 163) → (M') id k = M id k := by
  unfold f_X12_biscuits at hf
  have hfr : ∀ id k : Nat, (id ≠ 148 ∧ id ≠ 163) → M id k = M id k := fun _ _ _ => rfl
  refine mt_b1I hf (fun r2 hg1 hf => ?_)
  refine mt_jn1 hf (fun (v3 : Int32) => (∀ id k : Nat, (id ≠ 148 ∧ id ≠ 163) → M id k = M id k) → ∀ id k : Nat, (id ≠ 148 ∧ id ≠ 163) → (M') id k = M id k) ?_ ?_
  · intro v3 hf hfr
    refine mt_lpI2 hf (fun (x6 : Int32) (M7 : mt_M) => (∀ id k : Nat, (id ≠ 148 ∧ id ≠ 163) → M7 id k = M id k) → ∀ id k : Nat, (id ≠ 148 ∧ id ≠ 163) → (M') id k = M id k) ?_ hfr
    intro k8 ih9 x6 M7 hf hfr
    by_cases c10 : (7 : Int32) ≤ x6
    · have hf := mt_ifT c10 hf
      refine mt_lpI3 hf (fun (x11 : Int32) (x12 : Int32) (M13 : mt_M) => (∀ id k : Nat, (id ≠ 148 ∧ id ≠ 163) → M13 id k = M id k) → ∀ id k : Nat, (id ≠ 148 ∧ id ≠ 163) → (M') id k = M id k) ?_ hfr
      intro k14 ih15 x11 x12 M13 hf hfr
      refine mt_jn0 hf ((∀ id k : Nat, (id ≠ 148 ∧ id ≠ 163) → M13 id k = M id k) → ∀ id k : Nat, (id ≠ 148 ∧ id ≠ 163) → (M') id k = M id k) ?_ ?_
      · intro hf hfr
        by_cases c18 : x11 = 0
        · have hf := mt_ifT c18 hf
          refine mt_lpI3 hf (fun (x19 : Int32) (x20 : Int32) (x21 : Int32) => (∀ id k : Nat, (id ≠ 148 ∧ id ≠ 163) → M13 id k = M id k) → ∀ id k : Nat, (id ≠ 148 ∧ id ≠ 163) → (M') id k = M id k) ?_ hfr
          intro k22 ih23 x19 x20 x21 hf hfr
          by_cases c24 : (7 : Int32) ≤ x21
          · have hf := mt_ifT c24 hf
            by_cases c25 : a1 = 0
            · have hf := mt_ifT c25 hf
              obtain ⟨i1, i2⟩ := mt_so2 hf
              subst i1
              subst i2
              exact hfr
            · have hf := mt_ifF c25 hf
              obtain ⟨i1, i2⟩ := mt_so2 hf
              subst i1
              subst i2
              exact hfr
          · have hf := mt_ifF c24 hf
            refine mt_ciI hf (fun _ hf => ?_)
            refine mt_jn1 hf (fun (v27 : Int32) => (∀ id k : Nat, (id ≠ 148 ∧ id ≠ 163) → M13 id k = M id k) → ∀ id k : Nat, (id ≠ 148 ∧ id ≠ 163) → (M') id k = M id k) ?_ ?_
            · intro v27 hf hfr
              refine mt_ltI hf (fun x30 _ hf => ?_)
              refine mt_ciI hf (fun _ hf => ?_)
              refine mt_jn1 hf (fun (v32 : Int32) => (∀ id k : Nat, (id ≠ 148 ∧ id ≠ 163) → M13 id k = M id k) → ∀ id k : Nat, (id ≠ 148 ∧ id ≠ 163) → (M') id k = M id k) ?_ ?_
              · intro v32 hf hfr
                refine mt_jn1 hf (fun (v35 : Int32) => (∀ id k : Nat, (id ≠ 148 ∧ id ≠ 163) → M13 id k = M id k) → ∀ id k : Nat, (id ≠ 148 ∧ id ≠ 163) → (M') id k = M id k) ?_ ?_
                · intro v35 hf hfr
                  refine mt_ltI hf (fun x38 _ hf => ?_)
                  exact ih23 x30 v35 x38 hf hfr
                · intro j36 hj37 hf
                  by_cases c39 : (M13 163 x21.toNatClampNeg) ≤ v32
                  · have hf := mt_ifT c39 hf
                    exact hj37 x20 hf hfr
                  · have hf := mt_ifF c39 hf
                    exact hj37 x21 hf hfr
              · intro j33 hj34 hf
                by_cases c40 : 0 ≤ x20
                · have hf := mt_ifT c40 hf
                  refine mt_ciI hf (fun _ hf => ?_)
                  exact hj34 (M13 163 x20.toNatClampNeg) hf hfr
                · have hf := mt_ifF c40 hf
                  exact hj34 (0 : Int32) hf hfr
            · intro j28 hj29 hf
              by_cases c42 : (M13 163 x21.toNatClampNeg) ≤ 0
              · have hf := mt_ifT c42 hf
                exact hj29 (0 : Int32) hf hfr
              · have hf := mt_ifF c42 hf
                exact hj29 (1 : Int32) hf hfr
        · have hf := mt_ifF c18 hf
          refine mt_b2I hf (fun r44 M45 hg43 hf => ?_)
          have hfr : ∀ id k : Nat, (id ≠ 148 ∧ id ≠ 163) → M45 id k = M id k := fun id k hid => (fr_X12_no x11 M13 hg43 id k (by omega)).trans (hfr id k hid)
          obtain ⟨i1, i2⟩ := mt_so2 hf
          subst i1
          subst i2
          exact hfr
      · intro j16 hj17 hf
        by_cases c46 : (M13 147 27) ≤ x12
        · have hf := mt_ifT c46 hf
          exact hj17 hf hfr
        · have hf := mt_ifF c46 hf
          by_cases c47 : x11 = 0
          · have hf := mt_ifT c47 hf
            refine mt_ciI hf (fun _ hf => ?_)
            refine mt_b1I hf (fun r50 hg49 hf => ?_)
            refine mt_jn1 hf (fun (v51 : Int32) => (∀ id k : Nat, (id ≠ 148 ∧ id ≠ 163) → M13 id k = M id k) → ∀ id k : Nat, (id ≠ 148 ∧ id ≠ 163) → (M') id k = M id k) ?_ ?_
            · intro v51 hf hfr
              refine mt_jn1 hf (fun (M54 : mt_M) => (∀ id k : Nat, (id ≠ 148 ∧ id ≠ 163) → M54 id k = M id k) → ∀ id k : Nat, (id ≠ 148 ∧ id ≠ 163) → (M') id k = M id k) ?_ ?_
              · intro M54 hf hfr
                refine mt_ltI hf (fun x57 _ hf => ?_)
                exact ih15 v51 x57 M54 hf hfr
              · intro j55 hj56 hf
                by_cases c58 : v51 = 0
                · have hf := mt_ifT c58 hf
                  refine mt_ciI hf (fun _ hf => ?_)
                  refine mt_ciI hf (fun _ hf => ?_)
                  refine mt_ciI hf (fun _ hf => ?_)
                  refine mt_ltI hf (fun M61 eM61 hf => ?_)
                  have hfr : ∀ id k : Nat, (id ≠ 148 ∧ id ≠ 163) → M61 id k = M id k := fun id k hid => (by rw [eM61]; exact mt_wr_ne2 (by omega) : M61 id k = M13 id k).trans (hfr id k hid)
                  exact hj56 M61 hf hfr
                · have hf := mt_ifF c58 hf
                  exact hj56 M13 hf hfr
            · intro j52 hj53 hf
              by_cases c63 : r50 = 0
              · have hf := mt_ifT c63 hf
                exact hj53 (-3 : Int32) hf hfr
              · have hf := mt_ifF c63 hf
                exact hj53 (0 : Int32) hf hfr
          · have hf := mt_ifF c47 hf
            exact hj17 hf hfr
    · have hf := mt_ifF c10 hf
      refine mt_ciI hf (fun _ hf => ?_)
      refine mt_ltI hf (fun M64 eM64 hf => ?_)
      have hfr : ∀ id k : Nat, (id ≠ 148 ∧ id ≠ 163) → M64 id k = M id k := fun id k hid => (by rw [eM64]; exact mt_wr_ne2 (by omega) : M64 id k = M7 id k).trans (hfr id k hid)
      refine mt_ltI hf (fun x66 _ hf => ?_)
      exact ih9 x66 M64 hf hfr
  · intro j4 hj5 hf
    by_cases c67 : r2 = 0
    · have hf := mt_ifT c67 hf
      exact hj5 (-2 : Int32) hf hfr
    · have hf := mt_ifF c67 hf
      exact hj5 (0 : Int32) hf hfr
set_option maxHeartbeats 4000000 in
set_option maxRecDepth 100000 in
theorem fr_X12_lasts (a1 : Int32) (M : mt_M) {r : Int32} {M' : mt_M} (hf : f_X12_lasts a1 M = some (r, M')) : ∀ id k : Nat, ((id ≠ 147 ∨ k ≠ 10) ∧ (id ≠ 147 ∨ k ≠ 11) ∧ (id ≠ 147 ∨ k ≠ 21) ∧ (id ≠ 147 ∨ k ≠ 22) ∧ (id ≠ 147 ∨ k ≠ 8) ∧ (id ≠ 147 ∨ k ≠ 9) ∧ id ≠ 148 ∧ id ≠ 149 ∧ id ≠ 150 ∧ id ≠ 151 ∧ id ≠ 152 ∧ id ≠ 153 ∧ id ≠ 154 ∧ id ≠ 155 ∧ id ≠ 160) → (M') id k = M id k := by
  unfold f_X12_lasts at hf
  have hfr : ∀ id k : Nat, ((id ≠ 147 ∨ k ≠ 10) ∧ (id ≠ 147 ∨ k ≠ 11) ∧ (id ≠ 147 ∨ k ≠ 21) ∧ (id ≠ 147 ∨ k ≠ 22) ∧ (id ≠ 147 ∨ k ≠ 8) ∧ (id ≠ 147 ∨ k ≠ 9) ∧ id ≠ 148 ∧ id ≠ 149 ∧ id ≠ 150 ∧ id ≠ 151 ∧ id ≠ 152 ∧ id ≠ 153 ∧ id ≠ 154 ∧ id ≠ 155 ∧ id ≠ 160) → M id k = M id k := fun _ _ _ => rfl
  refine mt_b1I hf (fun r2 hg1 hf => ?_)
  by_cases c3 : r2 = 0
  · have hf := mt_ifT c3 hf
    refine mt_b1I hf (fun M5 hg4 hf => ?_)
    have hfr : ∀ id k : Nat, ((id ≠ 147 ∨ k ≠ 10) ∧ (id ≠ 147 ∨ k ≠ 11) ∧ (id ≠ 147 ∨ k ≠ 21) ∧ (id ≠ 147 ∨ k ≠ 22) ∧ (id ≠ 147 ∨ k ≠ 8) ∧ (id ≠ 147 ∨ k ≠ 9) ∧ id ≠ 148 ∧ id ≠ 149 ∧ id ≠ 150 ∧ id ≠ 151 ∧ id ≠ 152 ∧ id ≠ 153 ∧ id ≠ 154 ∧ id ≠ 155 ∧ id ≠ 160) → M5 id k = M id k := fun id k hid => (fr_X12_thinks M hg4 id k (by omega)).trans (hfr id k hid)
    refine mt_lpI3 hf (fun (x6 : Int32) (x7 : Int32) (M8 : mt_M) => (∀ id k : Nat, ((id ≠ 147 ∨ k ≠ 10) ∧ (id ≠ 147 ∨ k ≠ 11) ∧ (id ≠ 147 ∨ k ≠ 21) ∧ (id ≠ 147 ∨ k ≠ 22) ∧ (id ≠ 147 ∨ k ≠ 8) ∧ (id ≠ 147 ∨ k ≠ 9) ∧ id ≠ 148 ∧ id ≠ 149 ∧ id ≠ 150 ∧ id ≠ 151 ∧ id ≠ 152 ∧ id ≠ 153 ∧ id ≠ 154 ∧ id ≠ 155 ∧ id ≠ 160) → M8 id k = M id k) → ∀ id k : Nat, ((id ≠ 147 ∨ k ≠ 10) ∧ (id ≠ 147 ∨ k ≠ 11) ∧ (id ≠ 147 ∨ k ≠ 21) ∧ (id ≠ 147 ∨ k ≠ 22) ∧ (id ≠ 147 ∨ k ≠ 8) ∧ (id ≠ 147 ∨ k ≠ 9) ∧ id ≠ 148 ∧ id ≠ 149 ∧ id ≠ 150 ∧ id ≠ 151 ∧ id ≠ 152 ∧ id ≠ 153 ∧ id ≠ 154 ∧ id ≠ 155 ∧ id ≠ 160) → (M') id k = M id k) ?_ hfr
    intro k9 ih10 x6 x7 M8 hf hfr
    refine mt_jn0 hf ((∀ id k : Nat, ((id ≠ 147 ∨ k ≠ 10) ∧ (id ≠ 147 ∨ k ≠ 11) ∧ (id ≠ 147 ∨ k ≠ 21) ∧ (id ≠ 147 ∨ k ≠ 22) ∧ (id ≠ 147 ∨ k ≠ 8) ∧ (id ≠ 147 ∨ k ≠ 9) ∧ id ≠ 148 ∧ id ≠ 149 ∧ id ≠ 150 ∧ id ≠ 151 ∧ id ≠ 152 ∧ id ≠ 153 ∧ id ≠ 154 ∧ id ≠ 155 ∧ id ≠ 160) → M8 id k = M id k) → ∀ id k : Nat, ((id ≠ 147 ∨ k ≠ 10) ∧ (id ≠ 147 ∨ k ≠ 11) ∧ (id ≠ 147 ∨ k ≠ 21) ∧ (id ≠ 147 ∨ k ≠ 22) ∧ (id ≠ 147 ∨ k ≠ 8) ∧ (id ≠ 147 ∨ k ≠ 9) ∧ id ≠ 148 ∧ id ≠ 149 ∧ id ≠ 150 ∧ id ≠ 151 ∧ id ≠ 152 ∧ id ≠ 153 ∧ id ≠ 154 ∧ id ≠ 155 ∧ id ≠ 160) → (M') id k = M id k) ?_ ?_
    · intro hf hfr
      refine mt_b1I hf (fun M14 hg13 hf => ?_)
      have hfr : ∀ id k : Nat, ((id ≠ 147 ∨ k ≠ 10) ∧ (id ≠ 147 ∨ k ≠ 11) ∧ (id ≠ 147 ∨ k ≠ 21) ∧ (id ≠ 147 ∨ k ≠ 22) ∧ (id ≠ 147 ∨ k ≠ 8) ∧ (id ≠ 147 ∨ k ≠ 9) ∧ id ≠ 148 ∧ id ≠ 149 ∧ id ≠ 150 ∧ id ≠ 151 ∧ id ≠ 152 ∧ id ≠ 153 ∧ id ≠ 154 ∧ id ≠ 155 ∧ id ≠ 160) → M14 id k = M id k := fun id k hid => (fr_X12_forgets M8 hg13 id k (by omega)).trans (hfr id k hid)
      obtain ⟨i1, i2⟩ := mt_so2 hf
      subst i1
      subst i2
      exact hfr
    · intro j11 hj12 hf
      by_cases c15 : (60 : Int32) < x7
      · have hf := mt_ifT c15 hf
        exact hj12 hf hfr
      · have hf := mt_ifF c15 hf
        by_cases c16 : 0 ≤ x6
        · have hf := mt_ifT c16 hf
          exact hj12 hf hfr
        · have hf := mt_ifF c16 hf
          refine mt_b1I hf (fun r18 hg17 hf => ?_)
          refine mt_jn1 hf (fun (v19 : Int32) => (∀ id k : Nat, ((id ≠ 147 ∨ k ≠ 10) ∧ (id ≠ 147 ∨ k ≠ 11) ∧ (id ≠ 147 ∨ k ≠ 21) ∧ (id ≠ 147 ∨ k ≠ 22) ∧ (id ≠ 147 ∨ k ≠ 8) ∧ (id ≠ 147 ∨ k ≠ 9) ∧ id ≠ 148 ∧ id ≠ 149 ∧ id ≠ 150 ∧ id ≠ 151 ∧ id ≠ 152 ∧ id ≠ 153 ∧ id ≠ 154 ∧ id ≠ 155 ∧ id ≠ 160) → M8 id k = M id k) → ∀ id k : Nat, ((id ≠ 147 ∨ k ≠ 10) ∧ (id ≠ 147 ∨ k ≠ 11) ∧ (id ≠ 147 ∨ k ≠ 21) ∧ (id ≠ 147 ∨ k ≠ 22) ∧ (id ≠ 147 ∨ k ≠ 8) ∧ (id ≠ 147 ∨ k ≠ 9) ∧ id ≠ 148 ∧ id ≠ 149 ∧ id ≠ 150 ∧ id ≠ 151 ∧ id ≠ 152 ∧ id ≠ 153 ∧ id ≠ 154 ∧ id ≠ 155 ∧ id ≠ 160) → (M') id k = M id k) ?_ ?_
          · intro v19 hf hfr
            refine mt_b2I hf (fun r23 M24 hg22 hf => ?_)
            have hfr : ∀ id k : Nat, ((id ≠ 147 ∨ k ≠ 10) ∧ (id ≠ 147 ∨ k ≠ 11) ∧ (id ≠ 147 ∨ k ≠ 21) ∧ (id ≠ 147 ∨ k ≠ 22) ∧ (id ≠ 147 ∨ k ≠ 8) ∧ (id ≠ 147 ∨ k ≠ 9) ∧ id ≠ 148 ∧ id ≠ 149 ∧ id ≠ 150 ∧ id ≠ 151 ∧ id ≠ 152 ∧ id ≠ 153 ∧ id ≠ 154 ∧ id ≠ 155 ∧ id ≠ 160) → M24 id k = M id k := fun id k hid => (fr_X12_goesDay M8 hg22 id k (by omega)).trans (hfr id k hid)
            refine mt_ltI hf (fun x25 _ hf => ?_)
            exact ih10 v19 x25 M24 hf hfr
          · intro j20 hj21 hf
            by_cases c26 : r18 < a1
            · have hf := mt_ifT c26 hf
              exact hj21 (-9 : Int32) hf hfr
            · have hf := mt_ifF c26 hf
              exact hj21 x7 hf hfr
  · have hf := mt_ifF c3 hf
    refine mt_b2I hf (fun r28 M29 hg27 hf => ?_)
    have hfr : ∀ id k : Nat, ((id ≠ 147 ∨ k ≠ 10) ∧ (id ≠ 147 ∨ k ≠ 11) ∧ (id ≠ 147 ∨ k ≠ 21) ∧ (id ≠ 147 ∨ k ≠ 22) ∧ (id ≠ 147 ∨ k ≠ 8) ∧ (id ≠ 147 ∨ k ≠ 9) ∧ id ≠ 148 ∧ id ≠ 149 ∧ id ≠ 150 ∧ id ≠ 151 ∧ id ≠ 152 ∧ id ≠ 153 ∧ id ≠ 154 ∧ id ≠ 155 ∧ id ≠ 160) → M29 id k = M id k := fun id k hid => (fr_X12_no r2 M hg27 id k (by omega)).trans (hfr id k hid)
    obtain ⟨i1, i2⟩ := mt_so2 hf
    subst i1
    subst i2
    exact hfr
set_option maxHeartbeats 4000000 in
set_option maxRecDepth 100000 in
theorem fr_X12_row (a1 : Int32) (M : mt_M) {r : Int32} {M' : mt_M} (hf : f_X12_row a1 M = some (r, M')) : ∀ id k : Nat, ((id ≠ 147 ∨ k ≠ 27) ∧ id ≠ 148 ∧ id ≠ 162) → (M') id k = M id k := by
  unfold f_X12_row at hf
  have hfr : ∀ id k : Nat, ((id ≠ 147 ∨ k ≠ 27) ∧ id ≠ 148 ∧ id ≠ 162) → M id k = M id k := fun _ _ _ => rfl
  refine mt_b1I hf (fun r2 hg1 hf => ?_)
  refine mt_jn1 hf (fun (x3 : Int32) => (∀ id k : Nat, ((id ≠ 147 ∨ k ≠ 27) ∧ id ≠ 148 ∧ id ≠ 162) → M id k = M id k) → ∀ id k : Nat, ((id ≠ 147 ∨ k ≠ 27) ∧ id ≠ 148 ∧ id ≠ 162) → (M') id k = M id k) ?_ ?_
  · intro x3 hf hfr
    by_cases c6 : x3 = 0
    · have hf := mt_ifT c6 hf
      refine mt_ciI hf (fun _ hf => ?_)
      refine mt_ltI hf (fun M7 eM7 hf => ?_)
      have hfr : ∀ id k : Nat, ((id ≠ 147 ∨ k ≠ 27) ∧ id ≠ 148 ∧ id ≠ 162) → M7 id k = M id k := fun id k hid => (by rw [eM7]; exact mt_wr_ne2 (by omega) : M7 id k = M id k).trans (hfr id k hid)
      refine mt_ltI hf (fun M9 eM9 hf => ?_)
      have hfr : ∀ id k : Nat, ((id ≠ 147 ∨ k ≠ 27) ∧ id ≠ 148 ∧ id ≠ 162) → M9 id k = M id k := fun id k hid => (by rw [eM9]; exact mt_wr_ne2 (by omega) : M9 id k = M7 id k).trans (hfr id k hid)
      obtain ⟨i1, i2⟩ := mt_so2 hf
      subst i1
      subst i2
      exact hfr
    · have hf := mt_ifF c6 hf
      refine mt_b2I hf (fun r11 M12 hg10 hf => ?_)
      have hfr : ∀ id k : Nat, ((id ≠ 147 ∨ k ≠ 27) ∧ id ≠ 148 ∧ id ≠ 162) → M12 id k = M id k := fun id k hid => (fr_X12_no x3 M hg10 id k (by omega)).trans (hfr id k hid)
      obtain ⟨i1, i2⟩ := mt_so2 hf
      subst i1
      subst i2
      exact hfr
  · intro j4 hj5 hf
    by_cases c13 : r2 = 0
    · have hf := mt_ifT c13 hf
      by_cases c14 : (M 147 27) = (12 : Int32)
      · have hf := mt_ifT c14 hf
        exact hj5 (-6 : Int32) hf hfr
      · have hf := mt_ifF c14 hf
        exact hj5 r2 hf hfr
    · have hf := mt_ifF c13 hf
      exact hj5 r2 hf hfr
set_option maxHeartbeats 4000000 in
set_option maxRecDepth 100000 in
theorem fr_X12_judge (a1 : Int32) (M : mt_M) {r : Int32} {M' : mt_M} (hf : f_X12_judge a1 M = some (r, M')) : ∀ id k : Nat, ((id ≠ 147 ∨ k ≠ 10) ∧ (id ≠ 147 ∨ k ≠ 11) ∧ (id ≠ 147 ∨ k ≠ 21) ∧ (id ≠ 147 ∨ k ≠ 22) ∧ (id ≠ 147 ∨ k ≠ 27) ∧ (id ≠ 147 ∨ k ≠ 8) ∧ (id ≠ 147 ∨ k ≠ 9) ∧ id ≠ 148 ∧ id ≠ 149 ∧ id ≠ 150 ∧ id ≠ 151 ∧ id ≠ 152 ∧ id ≠ 153 ∧ id ≠ 154 ∧ id ≠ 155 ∧ id ≠ 160) → (M') id k = M id k := by
  unfold f_X12_judge at hf
  have hfr : ∀ id k : Nat, ((id ≠ 147 ∨ k ≠ 10) ∧ (id ≠ 147 ∨ k ≠ 11) ∧ (id ≠ 147 ∨ k ≠ 21) ∧ (id ≠ 147 ∨ k ≠ 22) ∧ (id ≠ 147 ∨ k ≠ 27) ∧ (id ≠ 147 ∨ k ≠ 8) ∧ (id ≠ 147 ∨ k ≠ 9) ∧ id ≠ 148 ∧ id ≠ 149 ∧ id ≠ 150 ∧ id ≠ 151 ∧ id ≠ 152 ∧ id ≠ 153 ∧ id ≠ 154 ∧ id ≠ 155 ∧ id ≠ 160) → M id k = M id k := fun _ _ _ => rfl
  refine mt_b1I hf (fun r2 hg1 hf => ?_)
  by_cases c3 : r2 = 0
  · have hf := mt_ifT c3 hf
    refine mt_b2I hf (fun r30 M31 hg29 hf => ?_)
    have hfr : ∀ id k : Nat, ((id ≠ 147 ∨ k ≠ 10) ∧ (id ≠ 147 ∨ k ≠ 11) ∧ (id ≠ 147 ∨ k ≠ 21) ∧ (id ≠ 147 ∨ k ≠ 22) ∧ (id ≠ 147 ∨ k ≠ 27) ∧ (id ≠ 147 ∨ k ≠ 8) ∧ (id ≠ 147 ∨ k ≠ 9) ∧ id ≠ 148 ∧ id ≠ 149 ∧ id ≠ 150 ∧ id ≠ 151 ∧ id ≠ 152 ∧ id ≠ 153 ∧ id ≠ 154 ∧ id ≠ 155 ∧ id ≠ 160) → M31 id k = M id k := fun id k hid => (fr_X12_no (-1 : Int32) M hg29 id k (by omega)).trans (hfr id k hid)
    obtain ⟨i1, i2⟩ := mt_so2 hf
    subst i1
    subst i2
    exact hfr
  · have hf := mt_ifF c3 hf
    refine mt_ltI hf (fun x4 _ hf => ?_)
    refine mt_ltI hf (fun M5 eM5 hf => ?_)
    have hfr : ∀ id k : Nat, ((id ≠ 147 ∨ k ≠ 10) ∧ (id ≠ 147 ∨ k ≠ 11) ∧ (id ≠ 147 ∨ k ≠ 21) ∧ (id ≠ 147 ∨ k ≠ 22) ∧ (id ≠ 147 ∨ k ≠ 27) ∧ (id ≠ 147 ∨ k ≠ 8) ∧ (id ≠ 147 ∨ k ≠ 9) ∧ id ≠ 148 ∧ id ≠ 149 ∧ id ≠ 150 ∧ id ≠ 151 ∧ id ≠ 152 ∧ id ≠ 153 ∧ id ≠ 154 ∧ id ≠ 155 ∧ id ≠ 160) → M5 id k = M id k := fun id k hid => (by rw [eM5]; exact mt_wr_ne2 (by omega) : M5 id k = M id k).trans (hfr id k hid)
    refine mt_b1I hf (fun M7 hg6 hf => ?_)
    have hfr : ∀ id k : Nat, ((id ≠ 147 ∨ k ≠ 10) ∧ (id ≠ 147 ∨ k ≠ 11) ∧ (id ≠ 147 ∨ k ≠ 21) ∧ (id ≠ 147 ∨ k ≠ 22) ∧ (id ≠ 147 ∨ k ≠ 27) ∧ (id ≠ 147 ∨ k ≠ 8) ∧ (id ≠ 147 ∨ k ≠ 9) ∧ id ≠ 148 ∧ id ≠ 149 ∧ id ≠ 150 ∧ id ≠ 151 ∧ id ≠ 152 ∧ id ≠ 153 ∧ id ≠ 154 ∧ id ≠ 155 ∧ id ≠ 160) → M7 id k = M id k := fun id k hid => (fr_X12_thinks M5 hg6 id k (by omega)).trans (hfr id k hid)
    refine mt_lpI3 hf (fun (x8 : Int32) (x9 : Int32) (M10 : mt_M) => (∀ id k : Nat, ((id ≠ 147 ∨ k ≠ 10) ∧ (id ≠ 147 ∨ k ≠ 11) ∧ (id ≠ 147 ∨ k ≠ 21) ∧ (id ≠ 147 ∨ k ≠ 22) ∧ (id ≠ 147 ∨ k ≠ 27) ∧ (id ≠ 147 ∨ k ≠ 8) ∧ (id ≠ 147 ∨ k ≠ 9) ∧ id ≠ 148 ∧ id ≠ 149 ∧ id ≠ 150 ∧ id ≠ 151 ∧ id ≠ 152 ∧ id ≠ 153 ∧ id ≠ 154 ∧ id ≠ 155 ∧ id ≠ 160) → M10 id k = M id k) → ∀ id k : Nat, ((id ≠ 147 ∨ k ≠ 10) ∧ (id ≠ 147 ∨ k ≠ 11) ∧ (id ≠ 147 ∨ k ≠ 21) ∧ (id ≠ 147 ∨ k ≠ 22) ∧ (id ≠ 147 ∨ k ≠ 27) ∧ (id ≠ 147 ∨ k ≠ 8) ∧ (id ≠ 147 ∨ k ≠ 9) ∧ id ≠ 148 ∧ id ≠ 149 ∧ id ≠ 150 ∧ id ≠ 151 ∧ id ≠ 152 ∧ id ≠ 153 ∧ id ≠ 154 ∧ id ≠ 155 ∧ id ≠ 160) → (M') id k = M id k) ?_ hfr
    intro k11 ih12 x8 x9 M10 hf hfr
    refine mt_jn0 hf ((∀ id k : Nat, ((id ≠ 147 ∨ k ≠ 10) ∧ (id ≠ 147 ∨ k ≠ 11) ∧ (id ≠ 147 ∨ k ≠ 21) ∧ (id ≠ 147 ∨ k ≠ 22) ∧ (id ≠ 147 ∨ k ≠ 27) ∧ (id ≠ 147 ∨ k ≠ 8) ∧ (id ≠ 147 ∨ k ≠ 9) ∧ id ≠ 148 ∧ id ≠ 149 ∧ id ≠ 150 ∧ id ≠ 151 ∧ id ≠ 152 ∧ id ≠ 153 ∧ id ≠ 154 ∧ id ≠ 155 ∧ id ≠ 160) → M10 id k = M id k) → ∀ id k : Nat, ((id ≠ 147 ∨ k ≠ 10) ∧ (id ≠ 147 ∨ k ≠ 11) ∧ (id ≠ 147 ∨ k ≠ 21) ∧ (id ≠ 147 ∨ k ≠ 22) ∧ (id ≠ 147 ∨ k ≠ 27) ∧ (id ≠ 147 ∨ k ≠ 8) ∧ (id ≠ 147 ∨ k ≠ 9) ∧ id ≠ 148 ∧ id ≠ 149 ∧ id ≠ 150 ∧ id ≠ 151 ∧ id ≠ 152 ∧ id ≠ 153 ∧ id ≠ 154 ∧ id ≠ 155 ∧ id ≠ 160) → (M') id k = M id k) ?_ ?_
    · intro hf hfr
      refine mt_b1I hf (fun M16 hg15 hf => ?_)
      have hfr : ∀ id k : Nat, ((id ≠ 147 ∨ k ≠ 10) ∧ (id ≠ 147 ∨ k ≠ 11) ∧ (id ≠ 147 ∨ k ≠ 21) ∧ (id ≠ 147 ∨ k ≠ 22) ∧ (id ≠ 147 ∨ k ≠ 27) ∧ (id ≠ 147 ∨ k ≠ 8) ∧ (id ≠ 147 ∨ k ≠ 9) ∧ id ≠ 148 ∧ id ≠ 149 ∧ id ≠ 150 ∧ id ≠ 151 ∧ id ≠ 152 ∧ id ≠ 153 ∧ id ≠ 154 ∧ id ≠ 155 ∧ id ≠ 160) → M16 id k = M id k := fun id k hid => (fr_X12_forgets M10 hg15 id k (by omega)).trans (hfr id k hid)
      obtain ⟨i1, i2⟩ := mt_so2 hf
      subst i1
      subst i2
      exact hfr
    · intro j13 hj14 hf
      by_cases c17 : x4 ≤ x9
      · have hf := mt_ifT c17 hf
        exact hj14 hf hfr
      · have hf := mt_ifF c17 hf
        by_cases c18 : 0 ≤ x8
        · have hf := mt_ifT c18 hf
          exact hj14 hf hfr
        · have hf := mt_ifF c18 hf
          refine mt_ciI hf (fun _ hf => ?_)
          refine mt_ciI hf (fun _ hf => ?_)
          refine mt_jn1 hf (fun (v21 : Int32) => (∀ id k : Nat, ((id ≠ 147 ∨ k ≠ 10) ∧ (id ≠ 147 ∨ k ≠ 11) ∧ (id ≠ 147 ∨ k ≠ 21) ∧ (id ≠ 147 ∨ k ≠ 22) ∧ (id ≠ 147 ∨ k ≠ 27) ∧ (id ≠ 147 ∨ k ≠ 8) ∧ (id ≠ 147 ∨ k ≠ 9) ∧ id ≠ 148 ∧ id ≠ 149 ∧ id ≠ 150 ∧ id ≠ 151 ∧ id ≠ 152 ∧ id ≠ 153 ∧ id ≠ 154 ∧ id ≠ 155 ∧ id ≠ 160) → M10 id k = M id k) → ∀ id k : Nat, ((id ≠ 147 ∨ k ≠ 10) ∧ (id ≠ 147 ∨ k ≠ 11) ∧ (id ≠ 147 ∨ k ≠ 21) ∧ (id ≠ 147 ∨ k ≠ 22) ∧ (id ≠ 147 ∨ k ≠ 27) ∧ (id ≠ 147 ∨ k ≠ 8) ∧ (id ≠ 147 ∨ k ≠ 9) ∧ id ≠ 148 ∧ id ≠ 149 ∧ id ≠ 150 ∧ id ≠ 151 ∧ id ≠ 152 ∧ id ≠ 153 ∧ id ≠ 154 ∧ id ≠ 155 ∧ id ≠ 160) → (M') id k = M id k) ?_ ?_
          · intro v21 hf hfr
            refine mt_b2I hf (fun r25 M26 hg24 hf => ?_)
            have hfr : ∀ id k : Nat, ((id ≠ 147 ∨ k ≠ 10) ∧ (id ≠ 147 ∨ k ≠ 11) ∧ (id ≠ 147 ∨ k ≠ 21) ∧ (id ≠ 147 ∨ k ≠ 22) ∧ (id ≠ 147 ∨ k ≠ 27) ∧ (id ≠ 147 ∨ k ≠ 8) ∧ (id ≠ 147 ∨ k ≠ 9) ∧ id ≠ 148 ∧ id ≠ 149 ∧ id ≠ 150 ∧ id ≠ 151 ∧ id ≠ 152 ∧ id ≠ 153 ∧ id ≠ 154 ∧ id ≠ 155 ∧ id ≠ 160) → M26 id k = M id k := fun id k hid => (fr_X12_goesDay M10 hg24 id k (by omega)).trans (hfr id k hid)
            refine mt_ltI hf (fun x27 _ hf => ?_)
            exact ih12 v21 x27 M26 hf hfr
          · intro j22 hj23 hf
            by_cases c28 : (M10 152 a1.toNatClampNeg) = (M10 162 x9.toNatClampNeg)
            · have hf := mt_ifT c28 hf
              exact hj23 (-9 : Int32) hf hfr
            · have hf := mt_ifF c28 hf
              exact hj23 x9 hf hfr
set_option maxHeartbeats 4000000 in
set_option maxRecDepth 100000 in
theorem fr_X12_clear (M : mt_M) {r : Int32} {M' : mt_M} (hf : f_X12_clear M = some (r, M')) : ∀ id k : Nat, ((id ≠ 147 ∨ k ≠ 27)) → (M') id k = M id k := by
  unfold f_X12_clear at hf
  have hfr : ∀ id k : Nat, ((id ≠ 147 ∨ k ≠ 27)) → M id k = M id k := fun _ _ _ => rfl
  refine mt_ltI hf (fun x1 _ hf => ?_)
  refine mt_ltI hf (fun M2 eM2 hf => ?_)
  have hfr : ∀ id k : Nat, ((id ≠ 147 ∨ k ≠ 27)) → M2 id k = M id k := fun id k hid => (by rw [eM2]; exact mt_wr_ne2 (by omega) : M2 id k = M id k).trans (hfr id k hid)
  obtain ⟨i1, i2⟩ := mt_so2 hf
  subst i1
  subst i2
  exact hfr
set_option maxHeartbeats 4000000 in
set_option maxRecDepth 100000 in
theorem fr_X12_lots (a1 : Int32) (a2 : Int32) (a3 : Int32) (M : mt_M) {r : Int32} {M' : mt_M} (hf : f_X12_lots a1 a2 a3 M = some (r, M')) : ∀ id k : Nat, ((id ≠ 147 ∨ k ≠ 10) ∧ (id ≠ 147 ∨ k ≠ 11) ∧ (id ≠ 147 ∨ k ≠ 21) ∧ (id ≠ 147 ∨ k ≠ 22) ∧ (id ≠ 147 ∨ k ≠ 8) ∧ (id ≠ 147 ∨ k ≠ 9) ∧ id ≠ 148 ∧ id ≠ 149 ∧ id ≠ 150 ∧ id ≠ 151 ∧ id ≠ 152 ∧ id ≠ 153 ∧ id ≠ 154 ∧ id ≠ 155 ∧ id ≠ 160) → (M') id k = M id k := by
  unfold f_X12_lots at hf
  have hfr : ∀ id k : Nat, ((id ≠ 147 ∨ k ≠ 10) ∧ (id ≠ 147 ∨ k ≠ 11) ∧ (id ≠ 147 ∨ k ≠ 21) ∧ (id ≠ 147 ∨ k ≠ 22) ∧ (id ≠ 147 ∨ k ≠ 8) ∧ (id ≠ 147 ∨ k ≠ 9) ∧ id ≠ 148 ∧ id ≠ 149 ∧ id ≠ 150 ∧ id ≠ 151 ∧ id ≠ 152 ∧ id ≠ 153 ∧ id ≠ 154 ∧ id ≠ 155 ∧ id ≠ 160) → M id k = M id k := fun _ _ _ => rfl
  refine mt_b1I hf (fun r2 hg1 hf => ?_)
  refine mt_jn1 hf (fun (x3 : Int32) => (∀ id k : Nat, ((id ≠ 147 ∨ k ≠ 10) ∧ (id ≠ 147 ∨ k ≠ 11) ∧ (id ≠ 147 ∨ k ≠ 21) ∧ (id ≠ 147 ∨ k ≠ 22) ∧ (id ≠ 147 ∨ k ≠ 8) ∧ (id ≠ 147 ∨ k ≠ 9) ∧ id ≠ 148 ∧ id ≠ 149 ∧ id ≠ 150 ∧ id ≠ 151 ∧ id ≠ 152 ∧ id ≠ 153 ∧ id ≠ 154 ∧ id ≠ 155 ∧ id ≠ 160) → M id k = M id k) → ∀ id k : Nat, ((id ≠ 147 ∨ k ≠ 10) ∧ (id ≠ 147 ∨ k ≠ 11) ∧ (id ≠ 147 ∨ k ≠ 21) ∧ (id ≠ 147 ∨ k ≠ 22) ∧ (id ≠ 147 ∨ k ≠ 8) ∧ (id ≠ 147 ∨ k ≠ 9) ∧ id ≠ 148 ∧ id ≠ 149 ∧ id ≠ 150 ∧ id ≠ 151 ∧ id ≠ 152 ∧ id ≠ 153 ∧ id ≠ 154 ∧ id ≠ 155 ∧ id ≠ 160) → (M') id k = M id k) ?_ ?_
  · intro x3 hf hfr
    by_cases c6 : x3 = 0
    · have hf := mt_ifT c6 hf
      refine mt_lpI5 hf (fun (x7 : Int32) (x8 : Int32) (x9 : Int32) (x10 : Int32) (M11 : mt_M) => (∀ id k : Nat, ((id ≠ 147 ∨ k ≠ 10) ∧ (id ≠ 147 ∨ k ≠ 11) ∧ (id ≠ 147 ∨ k ≠ 21) ∧ (id ≠ 147 ∨ k ≠ 22) ∧ (id ≠ 147 ∨ k ≠ 8) ∧ (id ≠ 147 ∨ k ≠ 9) ∧ id ≠ 148 ∧ id ≠ 149 ∧ id ≠ 150 ∧ id ≠ 151 ∧ id ≠ 152 ∧ id ≠ 153 ∧ id ≠ 154 ∧ id ≠ 155 ∧ id ≠ 160) → M11 id k = M id k) → ∀ id k : Nat, ((id ≠ 147 ∨ k ≠ 10) ∧ (id ≠ 147 ∨ k ≠ 11) ∧ (id ≠ 147 ∨ k ≠ 21) ∧ (id ≠ 147 ∨ k ≠ 22) ∧ (id ≠ 147 ∨ k ≠ 8) ∧ (id ≠ 147 ∨ k ≠ 9) ∧ id ≠ 148 ∧ id ≠ 149 ∧ id ≠ 150 ∧ id ≠ 151 ∧ id ≠ 152 ∧ id ≠ 153 ∧ id ≠ 154 ∧ id ≠ 155 ∧ id ≠ 160) → (M') id k = M id k) ?_ hfr
      intro k12 ih13 x7 x8 x9 x10 M11 hf hfr
      by_cases c14 : a1 ≤ x10
      · have hf := mt_ifT c14 hf
        by_cases c15 : a3 = 0
        · have hf := mt_ifT c15 hf
          obtain ⟨i1, i2⟩ := mt_so2 hf
          subst i1
          subst i2
          exact hfr
        · have hf := mt_ifF c15 hf
          obtain ⟨i1, i2⟩ := mt_so2 hf
          subst i1
          subst i2
          exact hfr
      · have hf := mt_ifF c14 hf
        refine mt_b1I hf (fun M17 hg16 hf => ?_)
        have hfr : ∀ id k : Nat, ((id ≠ 147 ∨ k ≠ 10) ∧ (id ≠ 147 ∨ k ≠ 11) ∧ (id ≠ 147 ∨ k ≠ 21) ∧ (id ≠ 147 ∨ k ≠ 22) ∧ (id ≠ 147 ∨ k ≠ 8) ∧ (id ≠ 147 ∨ k ≠ 9) ∧ id ≠ 148 ∧ id ≠ 149 ∧ id ≠ 150 ∧ id ≠ 151 ∧ id ≠ 152 ∧ id ≠ 153 ∧ id ≠ 154 ∧ id ≠ 155 ∧ id ≠ 160) → M17 id k = M id k := fun id k hid => (fr_X12_thinks M11 hg16 id k (by omega)).trans (hfr id k hid)
        refine mt_ltI hf (fun x18 _ hf => ?_)
        refine mt_ltI hf (fun x19 _ hf => ?_)
        refine mt_lpI3 hf (fun (x20 : Int32) (x21 : Int32) (M22 : mt_M) => (∀ id k : Nat, ((id ≠ 147 ∨ k ≠ 10) ∧ (id ≠ 147 ∨ k ≠ 11) ∧ (id ≠ 147 ∨ k ≠ 21) ∧ (id ≠ 147 ∨ k ≠ 22) ∧ (id ≠ 147 ∨ k ≠ 8) ∧ (id ≠ 147 ∨ k ≠ 9) ∧ id ≠ 148 ∧ id ≠ 149 ∧ id ≠ 150 ∧ id ≠ 151 ∧ id ≠ 152 ∧ id ≠ 153 ∧ id ≠ 154 ∧ id ≠ 155 ∧ id ≠ 160) → M22 id k = M id k) → ∀ id k : Nat, ((id ≠ 147 ∨ k ≠ 10) ∧ (id ≠ 147 ∨ k ≠ 11) ∧ (id ≠ 147 ∨ k ≠ 21) ∧ (id ≠ 147 ∨ k ≠ 22) ∧ (id ≠ 147 ∨ k ≠ 8) ∧ (id ≠ 147 ∨ k ≠ 9) ∧ id ≠ 148 ∧ id ≠ 149 ∧ id ≠ 150 ∧ id ≠ 151 ∧ id ≠ 152 ∧ id ≠ 153 ∧ id ≠ 154 ∧ id ≠ 155 ∧ id ≠ 160) → (M') id k = M id k) ?_ hfr
        intro k23 ih24 x20 x21 M22 hf hfr
        by_cases c25 : (7 : Int32) ≤ x21
        · have hf := mt_ifT c25 hf
          refine mt_ltI hf (fun x26 _ hf => ?_)
          refine mt_ltI hf (fun x27 _ hf => ?_)
          refine mt_b1I hf (fun M29 hg28 hf => ?_)
          have hfr : ∀ id k : Nat, ((id ≠ 147 ∨ k ≠ 10) ∧ (id ≠ 147 ∨ k ≠ 11) ∧ (id ≠ 147 ∨ k ≠ 21) ∧ (id ≠ 147 ∨ k ≠ 22) ∧ (id ≠ 147 ∨ k ≠ 8) ∧ (id ≠ 147 ∨ k ≠ 9) ∧ id ≠ 148 ∧ id ≠ 149 ∧ id ≠ 150 ∧ id ≠ 151 ∧ id ≠ 152 ∧ id ≠ 153 ∧ id ≠ 154 ∧ id ≠ 155 ∧ id ≠ 160) → M29 id k = M id k := fun id k hid => (fr_X12_forgets M22 hg28 id k (by omega)).trans (hfr id k hid)
          refine mt_ltI hf (fun x30 _ hf => ?_)
          exact ih13 x20 x26 x27 x30 M29 hf hfr
        · have hf := mt_ifF c25 hf
          refine mt_lpI3 hf (fun (x31 : Int32) (x32 : Int32) (M33 : mt_M) => (∀ id k : Nat, ((id ≠ 147 ∨ k ≠ 10) ∧ (id ≠ 147 ∨ k ≠ 11) ∧ (id ≠ 147 ∨ k ≠ 21) ∧ (id ≠ 147 ∨ k ≠ 22) ∧ (id ≠ 147 ∨ k ≠ 8) ∧ (id ≠ 147 ∨ k ≠ 9) ∧ id ≠ 148 ∧ id ≠ 149 ∧ id ≠ 150 ∧ id ≠ 151 ∧ id ≠ 152 ∧ id ≠ 153 ∧ id ≠ 154 ∧ id ≠ 155 ∧ id ≠ 160) → M33 id k = M id k) → ∀ id k : Nat, ((id ≠ 147 ∨ k ≠ 10) ∧ (id ≠ 147 ∨ k ≠ 11) ∧ (id ≠ 147 ∨ k ≠ 21) ∧ (id ≠ 147 ∨ k ≠ 22) ∧ (id ≠ 147 ∨ k ≠ 8) ∧ (id ≠ 147 ∨ k ≠ 9) ∧ id ≠ 148 ∧ id ≠ 149 ∧ id ≠ 150 ∧ id ≠ 151 ∧ id ≠ 152 ∧ id ≠ 153 ∧ id ≠ 154 ∧ id ≠ 155 ∧ id ≠ 160) → (M') id k = M id k) ?_ hfr
          intro k34 ih35 x31 x32 M33 hf hfr
          by_cases c36 : (M33 147 8) ≤ x32
          · have hf := mt_ifT c36 hf
            refine mt_b2I hf (fun r38 M39 hg37 hf => ?_)
            have hfr : ∀ id k : Nat, ((id ≠ 147 ∨ k ≠ 10) ∧ (id ≠ 147 ∨ k ≠ 11) ∧ (id ≠ 147 ∨ k ≠ 21) ∧ (id ≠ 147 ∨ k ≠ 22) ∧ (id ≠ 147 ∨ k ≠ 8) ∧ (id ≠ 147 ∨ k ≠ 9) ∧ id ≠ 148 ∧ id ≠ 149 ∧ id ≠ 150 ∧ id ≠ 151 ∧ id ≠ 152 ∧ id ≠ 153 ∧ id ≠ 154 ∧ id ≠ 155 ∧ id ≠ 160) → M39 id k = M id k := fun id k hid => (fr_X12_goesDay M33 hg37 id k (by omega)).trans (hfr id k hid)
            refine mt_ltI hf (fun x40 _ hf => ?_)
            exact ih24 x31 x40 M39 hf hfr
          · have hf := mt_ifF c36 hf
            refine mt_ltI hf (fun x41 _ hf => ?_)
            refine mt_jn1 hf (fun (M42 : mt_M) => (∀ id k : Nat, ((id ≠ 147 ∨ k ≠ 10) ∧ (id ≠ 147 ∨ k ≠ 11) ∧ (id ≠ 147 ∨ k ≠ 21) ∧ (id ≠ 147 ∨ k ≠ 22) ∧ (id ≠ 147 ∨ k ≠ 8) ∧ (id ≠ 147 ∨ k ≠ 9) ∧ id ≠ 148 ∧ id ≠ 149 ∧ id ≠ 150 ∧ id ≠ 151 ∧ id ≠ 152 ∧ id ≠ 153 ∧ id ≠ 154 ∧ id ≠ 155 ∧ id ≠ 160) → M42 id k = M id k) → ∀ id k : Nat, ((id ≠ 147 ∨ k ≠ 10) ∧ (id ≠ 147 ∨ k ≠ 11) ∧ (id ≠ 147 ∨ k ≠ 21) ∧ (id ≠ 147 ∨ k ≠ 22) ∧ (id ≠ 147 ∨ k ≠ 8) ∧ (id ≠ 147 ∨ k ≠ 9) ∧ id ≠ 148 ∧ id ≠ 149 ∧ id ≠ 150 ∧ id ≠ 151 ∧ id ≠ 152 ∧ id ≠ 153 ∧ id ≠ 154 ∧ id ≠ 155 ∧ id ≠ 160) → (M') id k = M id k) ?_ ?_
            · intro M42 hf hfr
              refine mt_ltI hf (fun x45 _ hf => ?_)
              exact ih35 x41 x45 M42 hf hfr
            · intro j43 hj44 hf
              by_cases c46 : (((x41 &&& (2147483647 : Int32)) / (65536 : Int32)) - ((x41 &&& (2147483647 : Int32)) / (65536 : Int32)) / (2 : Int32) * (2 : Int32)) = (1 : Int32)
              · have hf := mt_ifT c46 hf
                refine mt_b1I hf (fun M48 hg47 hf => ?_)
                have hfr : ∀ id k : Nat, ((id ≠ 147 ∨ k ≠ 10) ∧ (id ≠ 147 ∨ k ≠ 11) ∧ (id ≠ 147 ∨ k ≠ 21) ∧ (id ≠ 147 ∨ k ≠ 22) ∧ (id ≠ 147 ∨ k ≠ 8) ∧ (id ≠ 147 ∨ k ≠ 9) ∧ id ≠ 148 ∧ id ≠ 149 ∧ id ≠ 150 ∧ id ≠ 151 ∧ id ≠ 152 ∧ id ≠ 153 ∧ id ≠ 154 ∧ id ≠ 155 ∧ id ≠ 160) → M48 id k = M id k := fun id k hid => (fr_X12_gets x32 M33 hg47 id k (by omega)).trans (hfr id k hid)
                exact hj44 M48 hf hfr
              · have hf := mt_ifF c46 hf
                exact hj44 M33 hf hfr
    · have hf := mt_ifF c6 hf
      refine mt_b2I hf (fun r50 M51 hg49 hf => ?_)
      have hfr : ∀ id k : Nat, ((id ≠ 147 ∨ k ≠ 10) ∧ (id ≠ 147 ∨ k ≠ 11) ∧ (id ≠ 147 ∨ k ≠ 21) ∧ (id ≠ 147 ∨ k ≠ 22) ∧ (id ≠ 147 ∨ k ≠ 8) ∧ (id ≠ 147 ∨ k ≠ 9) ∧ id ≠ 148 ∧ id ≠ 149 ∧ id ≠ 150 ∧ id ≠ 151 ∧ id ≠ 152 ∧ id ≠ 153 ∧ id ≠ 154 ∧ id ≠ 155 ∧ id ≠ 160) → M51 id k = M id k := fun id k hid => (fr_X12_no x3 M hg49 id k (by omega)).trans (hfr id k hid)
      obtain ⟨i1, i2⟩ := mt_so2 hf
      subst i1
      subst i2
      exact hfr
  · intro j4 hj5 hf
    by_cases c52 : r2 = 0
    · have hf := mt_ifT c52 hf
      refine mt_b1I hf (fun r54 hg53 hf => ?_)
      by_cases c55 : r54 = 0
      · have hf := mt_ifT c55 hf
        exact hj5 (-2 : Int32) hf hfr
      · have hf := mt_ifF c55 hf
        exact hj5 r2 hf hfr
    · have hf := mt_ifF c52 hf
      exact hj5 r2 hf hfr

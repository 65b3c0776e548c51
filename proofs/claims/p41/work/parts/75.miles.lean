/-! WAYS: along the row, or round by the ring -/
def rowL (c : Nat → Int32) (k : Nat) (x y : Nat) : Int := if x + 1 = y ∧ x < k then (nLg c x : Int) else if y + 1 = x ∧ y < k then (nLg c y : Int) else 1000000
def allL (c : Nat → Int32) (x y : Nat) : Int := if nRg c ≠ 0 ∧ ((x = nPl c - 1 ∧ y = 0) ∨ (x = 0 ∧ y = nPl c - 1)) then (nRg c : Int) else rowL c (nPl c - 1) x y
/-- miles from the first place -/
def sS (c : Nat → Int32) : Nat → Nat
  | 0 => 0
  | x + 1 => sS c x + nLg c x
def dS (c : Nat → Int32) (x y : Nat) : Nat := (sS c x - sS c y) + (sS c y - sS c x)
def mz (c : Nat → Int32) (x y : Nat) : Nat := if nRg c = 0 then dS c x y else min (dS c x y) (sS c (nPl c - 1) - dS c x y + nRg c)
def mzI (c : Nat → Int32) (x y : Nat) : Int := if x < nPl c ∧ y < nPl c then (mz c x y : Int) else if x = y then 0 else 1000000
section
variable {c : Nat → Int32}
theorem rowL_b (k x y : Nat) : 0 ≤ rowL c k x y ∧ rowL c k x y ≤ 1000000 := by
  have b1 := nLg_b c x
  have b2 := nLg_b c y
  unfold rowL
  split
  · omega
  · split <;> omega
theorem rowL_f {k P x y : Nat} (hk : k < P) (h : P ≤ x ∨ P ≤ y) : rowL c k x y = 1000000 := by
  unfold rowL
  rw [if_neg (by omega), if_neg (by omega)]
theorem rowL_s (k : Nat) : rowL c (k + 1) k (k + 1) = nLg c k ∧ rowL c (k + 1) (k + 1) k = nLg c k ∧ (∀ x y, ¬ (x = k ∧ y = k + 1) → ¬ (x = k + 1 ∧ y = k) → rowL c (k + 1) x y = rowL c k x y) ∧ rowL c k k (k + 1) = 1000000 := by
  refine ⟨?_, ?_, fun x y h1 h2 => ?_, ?_⟩
  · unfold rowL; rw [if_pos (by omega)]
  · unfold rowL; rw [if_neg (by omega), if_pos (by omega)]
  · unfold rowL
    by_cases q : x + 1 = y ∧ x < k
    · rw [if_pos q, if_pos (by omega)]
    · rw [if_neg q, if_neg (by omega)]
      by_cases q2 : y + 1 = x ∧ y < k
      · rw [if_pos q2, if_pos (by omega)]
      · rw [if_neg q2, if_neg (by omega)]
  · unfold rowL; rw [if_neg (by omega), if_neg (by omega)]
theorem rowL_le (k x y : Nat) : rowL c (k + 1) x y ≤ rowL c k x y := by
  obtain ⟨h1, h2, h3, h4⟩ := rowL_s (c := c) k
  by_cases q : x = k ∧ y = k + 1
  · rw [q.1, q.2, h4]; exact (rowL_b _ _ _).2
  · by_cases q2 : x = k + 1 ∧ y = k
    · rw [q2.1, q2.2, show rowL c k (k + 1) k = 1000000 by unfold rowL; rw [if_neg (by omega), if_neg (by omega)]]
      exact (rowL_b _ _ _).2
    · rw [h3 x y q q2]; exact Int.le_refl _
theorem nRg_p (h : nRg c ≠ 0) : 2 < nPl c := by
  unfold nRg at h
  by_cases q : 2 < nPl c ∧ inF (c 2) 2 = 0
  · exact q.1
  · rw [if_neg q] at h; exact absurd rfl h
theorem allL_b (x y : Nat) : 0 ≤ allL c x y ∧ allL c x y ≤ 1000000 := by
  have b1 := nRg_b c
  have := rowL_b (c := c) (nPl c - 1) x y
  unfold allL
  split <;> omega
theorem allL_f {x y : Nat} (h : nPl c ≤ x ∨ nPl c ≤ y) : allL c x y = 1000000 := by
  have bp := nPl_b c
  unfold allL
  rw [if_neg (by omega)]
  exact rowL_f (by omega) h
theorem sS_m (x y : Nat) (h : x ≤ y) : sS c x ≤ sS c y := by
  induction y with
  | zero => rw [show x = 0 by omega]; exact Nat.le_refl _
  | succ y ih =>
    by_cases q : x = y + 1
    · rw [q]; exact Nat.le_refl _
    · have := ih (by omega)
      show sS c x ≤ sS c y + nLg c y
      omega
theorem sS_b (x : Nat) : sS c x ≤ 32 * x := by
  induction x with
  | zero => exact Nat.le_refl _
  | succ x ih =>
    have := (nLg_b c x).2
    show sS c x + nLg c x ≤ _
    omega
theorem mz_b {x y : Nat} (hx : x < nPl c) (hy : y < nPl c) : mz c x y ≤ 128 ∧ dS c x y ≤ sS c (nPl c - 1) := by
  have bp := nPl_b c
  have h1 := sS_b (c := c) (nPl c - 1)
  have h2 := sS_m (c := c) x (nPl c - 1) (by omega)
  have h3 := sS_m (c := c) y (nPl c - 1) (by omega)
  unfold mz dS
  split <;> omega
theorem mz_sym (x y : Nat) : mz c x y = mz c y x := by
  have e : dS c x y = dS c y x := by unfold dS; omega
  unfold mz
  rw [e]
theorem mz_tri {x y z : Nat} (hx : x < nPl c) (hy : y < nPl c) (hz : z < nPl c) : mz c x z ≤ mz c x y + mz c y z := by
  have bp := nPl_b c
  have h2 := sS_m (c := c) x (nPl c - 1) (by omega)
  have h3 := sS_m (c := c) y (nPl c - 1) (by omega)
  have h4 := sS_m (c := c) z (nPl c - 1) (by omega)
  unfold mz dS
  generalize sS c x = a at *
  generalize sS c y = b at *
  generalize sS c z = d at *
  generalize sS c (nPl c - 1) = A at *
  generalize nRg c = R
  split <;> omega
theorem mz_adj {x : Nat} (hx : x + 1 < nPl c) : mz c x (x + 1) ≤ nLg c x := by
  have : dS c x (x + 1) = nLg c x := by
    unfold dS
    show (sS c x - (sS c x + nLg c x)) + ((sS c x + nLg c x) - sS c x) = nLg c x
    omega
  unfold mz
  rw [this]
  split
  · exact Nat.le_refl _
  · exact Nat.min_le_left _ _
theorem mz_pos {x y : Nat} (hx : x < nPl c) (hy : y < nPl c) (h : x ≠ y) : 1 ≤ mz c x y := by
  have st : ∀ x y, x < y → sS c x + 1 ≤ sS c y := fun x y h => by
    have := sS_m (c := c) (x + 1) y h
    have b := (nLg_b c x).1
    have e : sS c (x + 1) = sS c x + nLg c x := rfl
    omega
  have hd : 1 ≤ dS c x y := by
    unfold dS
    rcases Nat.lt_or_gt_of_ne h with q | q
    · have := st x y q; omega
    · have := st y x q; omega
  unfold mz
  split
  · exact hd
  · omega
theorem clo_all : Clo (allL c) (mzI c) := by
  have bp := nPl_b c
  have br := nRg_b c
  refine ⟨⟨fun x _ => ?_, fun x y _ _ hxy => ?_, fun x y z _ _ _ => ?_⟩, fun M hM x y hx hy => ?_⟩
  · unfold mzI
    split
    · unfold mz dS
      split <;> omega
    · exact if_pos rfl
  · unfold mzI
    by_cases q : x < nPl c ∧ y < nPl c
    · rw [if_pos q]
      have hb := mz_b q.1 q.2
      unfold allL
      by_cases r : nRg c ≠ 0 ∧ ((x = nPl c - 1 ∧ y = 0) ∨ (x = 0 ∧ y = nPl c - 1))
      · rw [if_pos r]
        have : mz c x y ≤ nRg c := by
          unfold mz dS
          rw [if_neg r.1]
          rcases r.2 with ⟨r1, r2⟩ | ⟨r1, r2⟩
          · rw [r1, r2, show sS c 0 = 0 from rfl]; omega
          · rw [r1, r2, show sS c 0 = 0 from rfl]; omega
        omega
      · rw [if_neg r]
        unfold rowL
        split
        · rename_i s
          have := mz_adj (c := c) (x := x) (by omega)
          rw [s.1] at this
          omega
        · split
          · rename_i s
            have := mz_adj (c := c) (x := y) (by omega)
            rw [s.1, mz_sym] at this
            omega
          · omega
    · rw [if_neg q, if_neg hxy, allL_f (by omega)]
      exact Int.le_refl _
  · unfold mzI
    by_cases qx : x < nPl c <;> by_cases qy : y < nPl c <;> by_cases qz : z < nPl c
    · have := mz_tri qx qy qz
      rw [if_pos ⟨qx, qz⟩, if_pos ⟨qx, qy⟩, if_pos ⟨qy, qz⟩]
      omega
    · rw [if_neg (by omega), if_neg (by omega), if_neg (show ¬ (y < nPl c ∧ z < nPl c) by omega), if_neg (show ¬ y = z by omega)]
      split <;> omega
    · have := mz_b qx qz
      rw [if_pos ⟨qx, qz⟩, if_neg (by omega), if_neg (by omega), if_neg (by omega), if_neg (by omega)]
      omega
    · rw [if_neg (by omega), if_neg (by omega), if_neg (show ¬ (x < nPl c ∧ y < nPl c) by omega), if_neg (show ¬ x = y by omega), if_neg (by omega)]
      split <;> omega
    · have := mz_b qy qz
      rw [if_neg (by omega), if_neg (by omega), if_neg (by omega), if_neg (by omega), if_pos ⟨qy, qz⟩]
      omega
    · have h1 : ¬ (x < nPl c ∧ z < nPl c) := by omega
      have h2 : ¬ (x < nPl c ∧ y < nPl c) := by omega
      have h3 : ¬ (y < nPl c ∧ z < nPl c) := by omega
      rw [if_neg h1, if_neg h2, if_neg h3, if_neg (show ¬ x = y by omega), if_neg (show ¬ y = z by omega)]
      split <;> omega
    · have h1 : ¬ (x < nPl c ∧ z < nPl c) := by omega
      have h2 : ¬ (x < nPl c ∧ y < nPl c) := by omega
      have h3 : ¬ (y < nPl c ∧ z < nPl c) := by omega
      rw [if_neg h1, if_neg h2, if_neg h3, if_neg (show ¬ x = z by omega), if_neg (show ¬ y = z by omega)]
      split <;> omega
    · have h1 : ¬ (x < nPl c ∧ z < nPl c) := by omega
      have h2 : ¬ (x < nPl c ∧ y < nPl c) := by omega
      have h3 : ¬ (y < nPl c ∧ z < nPl c) := by omega
      rw [if_neg h1, if_neg h2, if_neg h3]
      split <;> split <;> split <;> omega
  · obtain ⟨m1, m2, m3⟩ := hM
    -- along the row
    have row : ∀ d x, x + d < nPl c → M x (x + d) ≤ (sS c (x + d) : Int) - sS c x ∧ M (x + d) x ≤ (sS c (x + d) : Int) - sS c x := by
      intro d
      induction d with
      | zero =>
        intro x hx
        have := m1 x (by omega)
        rw [Nat.add_zero, this]
        omega
      | succ d ih =>
        intro x hx
        obtain ⟨i1, i2⟩ := ih x (by omega)
        have t1 := m3 x (x + d) (x + (d + 1)) (by omega) (by omega) (by omega)
        have t2 := m3 (x + (d + 1)) (x + d) x (by omega) (by omega) (by omega)
        have a1 := m2 (x + d) (x + (d + 1)) (by omega) (by omega) (by omega)
        have a2 := m2 (x + (d + 1)) (x + d) (by omega) (by omega) (by omega)
        have l1 : allL c (x + d) (x + (d + 1)) ≤ nLg c (x + d) := by
          unfold allL
          rw [if_neg (fun r => by have := nRg_p r.1; omega)]
          unfold rowL
          rw [if_pos (by omega)]
          exact Int.le_refl _
        have l2 : allL c (x + (d + 1)) (x + d) ≤ nLg c (x + d) := by
          unfold allL
          rw [if_neg (fun r => by have := nRg_p r.1; omega)]
          unfold rowL
          rw [if_neg (by omega), if_pos (by omega)]
          exact Int.le_refl _
        have e : sS c (x + (d + 1)) = sS c (x + d) + nLg c (x + d) := rfl
        omega
    have row2 : ∀ x y, x ≤ y → y < nPl c → M x y ≤ (sS c y : Int) - sS c x ∧ M y x ≤ (sS c y : Int) - sS c x := fun x y h1 h2 => by
      have := row (y - x) x (by omega)
      rwa [show x + (y - x) = y by omega] at this
    have ring : nRg c ≠ 0 → M (nPl c - 1) 0 ≤ nRg c ∧ M 0 (nPl c - 1) ≤ nRg c := fun r => by
      have a1 := m2 (nPl c - 1) 0 (by omega) (by omega) (by omega)
      have a2 := m2 0 (nPl c - 1) (by omega) (by omega) (by omega)
      have l1 : allL c (nPl c - 1) 0 = nRg c := if_pos ⟨r, Or.inl ⟨rfl, rfl⟩⟩
      have l2 : allL c 0 (nPl c - 1) = nRg c := if_pos ⟨r, Or.inr ⟨rfl, rfl⟩⟩
      omega
    unfold mzI
    by_cases q : x < nPl c ∧ y < nPl c
    · rw [if_pos q]
      have g1 := row2 0 x (Nat.zero_le _) q.1
      have g2 := row2 0 y (Nat.zero_le _) q.2
      have g3 := row2 x (nPl c - 1) (by omega) (by omega)
      have g4 := row2 y (nPl c - 1) (by omega) (by omega)
      have t1 := m3 x 0 y (by omega) (by omega) (by omega)
      have t2 := m3 0 (nPl c - 1) y (by omega) (by omega) (by omega)
      have t3 := m3 x (nPl c - 1) y (by omega) (by omega) (by omega)
      have t4 := m3 (nPl c - 1) 0 y (by omega) (by omega) (by omega)
      have z0 : sS c 0 = 0 := rfl
      have s1 := sS_m (c := c) x (nPl c - 1) (by omega)
      have s2 := sS_m (c := c) y (nPl c - 1) (by omega)
      have hd : M x y ≤ dS c x y := by
        unfold dS
        rcases Nat.le_total x y with h | h
        · have := (row2 x y h q.2).1
          have := sS_m (c := c) x y h
          omega
        · have := (row2 y x h q.1).2
          have := sS_m (c := c) y x h
          omega
      unfold mz
      split
      · exact hd
      · rename_i r
        obtain ⟨r1, r2⟩ := ring r
        have hr : M x y ≤ ((sS c (nPl c - 1) - dS c x y + nRg c : Nat) : Int) := by
          unfold dS
          rcases Nat.le_total x y with h | h
          · have := sS_m (c := c) x y h
            omega
          · have := sS_m (c := c) y x h
            omega
        omega
    · rw [if_neg q]
      by_cases e : x = y
      · rw [if_pos e, e, m1 y hy]
        exact Int.le_refl _
      · rw [if_neg e]
        exact Int.le_trans (m2 x y hx hy e) (by rw [allL_f (by omega)]; exact Int.le_refl _)
theorem clo_mz {E : Nat → Nat → Int} (h : Clo (allL c) E) {x y : Nat} (hx : x < nPl c) (hy : y < nPl c) : E x y = mz c x y := by
  have bp := nPl_b c
  have := clo_uniq h clo_all (x := x) (y := y) (by omega) (by omega)
  rw [this]
  unfold mzI
  rw [if_pos ⟨hx, hy⟩]
end

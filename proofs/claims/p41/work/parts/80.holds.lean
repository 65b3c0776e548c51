/-! THE LAW'S OWN: which proviso holds -/
/-- an int[] of the law's -/
def IA (σ : Sg) (y n : Nat) (f : Nat → Int32) : Prop := gS σ y = (2, n) ∧ 2000 ≤ y ∧ y < 2000 + gM σ ∧ n < 1000 ∧ ∀ j, j < n → aI σ y j = f j
section
variable {c : Nat → Int32} {σ : Sg} {y n : Nat} {car : Nat → Int32}
theorem IA.q (h : IA σ y n car) : ckQ σ y = true := by
  obtain ⟨h1, h2, h3, h4, -⟩ := h
  unfold ckQ
  simp [h1, h2, h3]
  omega
theorem IA.a (h : IA σ y n car) {j : Nat} (hj : j < n) : ckA σ 2 y (nI j) = true := by
  obtain ⟨h1, h2, h3, h4, -⟩ := h
  unfold ckA
  rw [h1, inb_nI hj (by omega)]
  simp [h3]
  omega
def bN (b : Bool) : Int32 := if b then 1 else 0
theorem bN_or (a b : Bool) : bN a ||| bN b = bN (a || b) := by cases a <;> cases b <;> decide
theorem n_h127 (h : Sc c σ) (hA : IA σ y n car) {K3 : Nat → Int32 → Nat → Int32 → Int32 → Int32 → Sg → Option (Int32 × Sg)} {t p k : Nat} {bu : Int32} (hp : p < 50) (hk : k < n) : ∀ (d j m : Nat) (acc : Bool), j + d = n → d < m →
    DL_holds_127 K3 m 1024 (nI t) y (nI k) bu (nI p) (bN acc) (nI j) σ = DL_holds_170 K3 1024 (nI t) y (nI k) bu (nI p) (bN (acc || onR car (if pW c p then nI (pO c p) else -2) k d j)) σ := by
  have hn := hA.2.2.2.1
  have e5 := (n_pro h p hp).2.2.2.2.2
  obtain ⟨V, hV⟩ : ∃ V, (if pW c p then nI (pO c p) else -2) = V := ⟨_, rfl⟩
  rw [hV] at e5 ⊢
  intro d
  induction d with
  | zero =>
    intro j m acc hj hm
    obtain ⟨m, rfl⟩ : ∃ k, m = k + 1 := ⟨m - 1, by omega⟩
    rw [DL_holds_127, hA.q, chk_true, hA.1, if_pos ((nI_leI (by omega) (by omega)).mpr (by omega)), show onR car V k 0 j = false from rfl, Bool.or_false]
  | succ d ih =>
    intro j m acc hj hm
    obtain ⟨m, rfl⟩ : ∃ k, m = k + 1 := ⟨m - 1, by omega⟩
    rw [DL_holds_127, hA.q, chk_true, hA.1, if_neg (fun z => by have := (nI_leI (by omega) (by omega)).mp z; omega), show onR car V k (d + 1) j = if j ≠ k ∧ car j = V then true else onR car V k d (j + 1) from rfl]
    unfold DL_holds_160 DL_holds_161
    rw [show nI j + (1 : Int32) = nI (j + 1) from nI_add _ _]
    rw [show (0 : Int32) = bN false from rfl, show (1 : Int32) = bN true from rfl, bN_or, bN_or, Bool.or_false, Bool.or_true]
    by_cases q : j = k
    · rw [if_pos (show nI j = nI k by rw [q]), ih (j + 1) m acc (by omega) (by omega), if_neg (show ¬ (j ≠ k ∧ car j = V) from fun z => z.1 q)]
    · rw [if_neg (fun z => q ((nI_eq (by omega) (by omega)).mp z)), hA.a (by omega), chk_true, e5, bnd_some, nI_clamp (by omega), hA.2.2.2.2 j (by omega)]
      by_cases q2 : car j = V
      · rw [if_pos q2, ih (j + 1) m true (by omega) (by omega), if_pos (show j ≠ k ∧ car j = V from ⟨q, q2⟩), Bool.true_or, Bool.or_true]
      · rw [if_neg q2, ih (j + 1) m acc (by omega) (by omega), if_neg (show ¬ (j ≠ k ∧ car j = V) from fun z => q2 z.2)]
theorem n_h107 (h : Sc c σ) (hA : IA σ y n car) {K3 : Nat → Int32 → Nat → Int32 → Int32 → Int32 → Sg → Option (Int32 × Sg)} {t p k : Nat} {bu : Int32} (hp : p < 50) (hk : k < n) :
    DL_holds_107 K3 1024 (nI t) y (nI k) bu (nI p) σ = if decide ((if pW c p then nI (pO c p) else -2) = (-2 : Int32)) || onR car (if pW c p then nI (pO c p) else -2) k n 0 then some (nI p, σ) else K3 1024 (nI t) y (nI k) bu (nI (p + 1)) σ := by
  have hn := hA.2.2.2.1
  have e5 := (n_pro h p hp).2.2.2.2.2
  have bo := pO_b c p
  have bc := nCa_b c
  unfold DL_holds_107 DL_holds_122
  rw [e5, bnd_some]
  have go : ∀ acc, DL_holds_127 K3 FU 1024 (nI t) y (nI k) bu (nI p) (bN acc) 0 σ = if acc || onR car (if pW c p then nI (pO c p) else -2) k n 0 then some (nI p, σ) else K3 1024 (nI t) y (nI k) bu (nI (p + 1)) σ := fun acc => by
    have := n_h127 h hA (K3 := K3) (t := t) (bu := bu) hp hk n 0 FU acc (by omega) (by unfold FU; omega)
    rw [show (0 : Int32) = nI 0 from rfl, this]
    unfold DL_holds_170 DL_holds_178 DL_holds_175
    rw [show nI p + (1 : Int32) = nI (p + 1) from nI_add _ _]
    cases (acc || onR car (if pW c p then nI (pO c p) else -2) k n 0) with
    | true => rw [if_neg (by decide), if_pos rfl]
    | false => rw [if_pos (by decide), if_neg (by decide)]
  have g0 := go false
  have g1 := go true
  rw [show bN false = 0 from rfl] at g0
  rw [show bN true = 1 from rfl] at g1
  by_cases q : pW c p = true
  · rw [if_pos q] at g0 ⊢
    rw [if_pos (show (0 : Int32) ≤ nI (pO c p) from nI_pos' (by omega)), g0, decide_eq_false (show ¬ nI (pO c p) = (-2 : Int32) from fun z => by
      have := congrArg Int32.toInt z
      rw [nI_i (by omega), show (-2 : Int32).toInt = -2 by decide] at this
      omega)]
  · rw [if_neg q] at g1 ⊢
    rw [if_neg (by decide), g1, decide_eq_true rfl]
theorem n_holds3 (h : Sc c σ) (hA : IA σ y n car) {P : Nat → Nat → Int32} {st : Nat → Int32} {t k : Nat} {sk : Int32} (ht : t < 8) (hk : k < n) (hk2 : k < 50) (hs : sk ≠ -2) (hst : st k = nI (nAt c t k)) (hst2 : st (k + 1) = nI (nAt c t (k + 1))) (hcar : ∃ cc, car k = nI cc ∧ cc < 1000)
    (hP : ∀ i, i < nPr c → P i 0 = nI (pC c i) ∧ P i 1 = (if pA c i then -2 else nI (pX c i)) ∧ P i 2 = (if pA c i then -2 else nI (pY c i)) ∧ P i 5 = (if pW c i then nI (pO c i) else -2)) :
    ∀ (d i m : Nat), i + d = nPr c → d < m → DL_holds_3 m 1024 (nI t) y (nI k) sk (nI i) σ = some (n2 (phR P car st n k sk d i), σ) := by
  have bb := nPr_b c
  have bp := nPl_b c
  have a1 := nAt_b c t k
  have a2 := nAt_b c t (k + 1)
  have hn := hA.2.2.2.1
  intro d
  induction d with
  | zero =>
    intro i m hi hm
    obtain ⟨m, rfl⟩ : ∃ k, m = k + 1 := ⟨m - 1, by omega⟩
    rw [DL_holds_3, n_provisos h, bnd_some, if_pos ((nI_leI (by omega) (by omega)).mpr (by omega))]
    rfl
  | succ d ih =>
    intro i m hi hm
    obtain ⟨m, rfl⟩ : ∃ k, m = k + 1 := ⟨m - 1, by omega⟩
    have e := ih (i + 1) m (by omega) (by omega)
    obtain ⟨p0, p1, p2, p3, p4, p5⟩ := n_pro h i (by omega)
    obtain ⟨q0, q1, q2, q5⟩ := hP i (by omega)
    have bx := pX_b c i
    have by' := pY_b c i
    have h107 := n_h107 h hA (K3 := DL_holds_3 m) (t := t) (p := i) (k := k) (bu := sk) (by omega) hk
    rw [DL_holds_3, n_provisos h, bnd_some, if_neg (fun z => by have := (nI_leI (by omega) (by omega)).mp z; omega)]
    unfold DL_holds_90 DL_holds_178
    rw [show nI i + (1 : Int32) = nI (i + 1) from nI_add _ _]
    rw [show phR P car st n k sk (d + 1) i = if sk = -2 then -1 else if nI i = sk then phR P car st n k sk d (i + 1) else if chS P car st n k i then nI i else phR P car st n k sk d (i + 1) from rfl, if_neg hs]
    by_cases c1 : nI i = sk
    · rw [if_pos c1, if_pos c1]; exact e
    rw [if_neg c1, if_neg c1, p0, bnd_some, hA.a hk, chk_true, nI_clamp (by omega), hA.2.2.2.2 k hk]
    unfold chS
    rw [q0, q1, q2, q5, hst, hst2]
    by_cases c2 : nI (pC c i) = car k
    · rw [if_pos c2, p1, bnd_some, p2, bnd_some, n_at h t k ht (by omega), bnd_some, show nI k + (1 : Int32) = nI (k + 1) from nI_add _ _, n_at h t (k + 1) ht (by omega), bnd_some]
      rw [h107, decide_eq_true c2, Bool.true_and]
      try rw [show nI i + (1 : Int32) = nI (i + 1) from nI_add _ _]
      generalize (decide ((if pW c i then nI (pO c i) else -2) = (-2 : Int32)) || onR car (if pW c i then nI (pO c i) else -2) k n 0) = Z
      have fin : ∀ w : Bool, w = true → (if Z = true then some (nI i, σ) else DL_holds_3 m 1024 (nI t) y (nI k) sk (nI (i + 1)) σ) = some (n2 (if (w && Z) = true then nI i else phR P car st n k sk d (i + 1)), σ) := fun w hw => by
        rw [hw, Bool.true_and]
        cases Z with
        | true => rw [if_pos rfl, if_pos rfl]; unfold n2; rw [if_neg (nI_neg (by omega))]
        | false => rw [if_neg (by decide), if_neg (by decide)]; exact e
      have no : ∀ w : Bool, w = false → DL_holds_3 m 1024 (nI t) y (nI k) sk (nI (i + 1)) σ = some (n2 (if (w && Z) = true then nI i else phR P car st n k sk d (i + 1)), σ) := fun w hw => by
        rw [hw, Bool.false_and, if_neg (by decide)]
        exact e
      by_cases c3 : pA c i = true
      · rw [if_pos c3, if_pos c3, if_pos (by decide)]
        exact fin _ (by rw [decide_eq_true rfl, Bool.true_or])
      · rw [if_neg c3, if_neg c3, if_neg (show ¬ nI (pX c i) < 0 from nI_nlt (b := 0) (by omega) (by omega))]
        have hI := isP_n (a := pX c i) (b := pY c i) (x := nAt c t k) (y := nAt c t (k + 1)) (by omega) (by omega) (by omega) (by omega)
        have hm2 : decide (nI (pX c i) = (-2 : Int32)) = false := decide_eq_false (fun z => by
          have := congrArg Int32.toInt z
          rw [nI_i (by omega), show (-2 : Int32).toInt = -2 by decide] at this
          omega)
        have yes : ((pX c i = nAt c t k ∧ pY c i = nAt c t (k + 1)) ∨ (pX c i = nAt c t (k + 1) ∧ pY c i = nAt c t k)) → (decide (nI (pX c i) = (-2 : Int32)) || isP (nI (pX c i)) (nI (pY c i)) (nI (nAt c t k)) (nI (nAt c t (k + 1)))) = true := fun z => by
          rw [hm2, Bool.false_or, hI]; exact z
        have nay : ¬ ((pX c i = nAt c t k ∧ pY c i = nAt c t (k + 1)) ∨ (pX c i = nAt c t (k + 1) ∧ pY c i = nAt c t k)) → (decide (nI (pX c i) = (-2 : Int32)) || isP (nI (pX c i)) (nI (pY c i)) (nI (nAt c t k)) (nI (nAt c t (k + 1)))) = false := fun z => by
          rw [hm2, Bool.false_or]
          exact Bool.eq_false_iff.mpr (fun y => z (by rw [hI] at y; exact y))
        have g : ∀ a b : Nat, a < 1000 → b < 1000 → ((nI a = nI b) ↔ (a = b)) := fun a b ha hb => nI_eq (by omega) (by omega)
        by_cases c4 : pX c i = nAt c t k
        · rw [if_pos (show nI (pX c i) = nI (nAt c t k) by rw [c4])]
          by_cases c5 : pY c i = nAt c t (k + 1)
          · rw [if_pos (show nI (pY c i) = nI (nAt c t (k + 1)) by rw [c5])]
            exact fin _ (yes (Or.inl ⟨c4, c5⟩))
          · rw [if_neg (fun z => c5 ((g _ _ (by omega) (by omega)).mp z))]
            have hne := nAt_ne c t k
            rw [if_neg (show ¬ nI (pX c i) = nI (nAt c t (k + 1)) from fun z => by have := (g _ _ (by omega) (by omega)).mp z; omega)]
            exact no _ (nay (fun z => by omega))
        · rw [if_neg (fun z => c4 ((g _ _ (by omega) (by omega)).mp z))]
          by_cases c5 : pX c i = nAt c t (k + 1)
          · rw [if_pos (show nI (pX c i) = nI (nAt c t (k + 1)) by rw [c5])]
            by_cases c6 : pY c i = nAt c t k
            · rw [if_pos (show nI (pY c i) = nI (nAt c t k) by rw [c6])]
              exact fin _ (yes (Or.inr ⟨c5, c6⟩))
            · rw [if_neg (fun z => c6 ((g _ _ (by omega) (by omega)).mp z))]
              exact no _ (nay (fun z => by omega))
          · rw [if_neg (fun z => c5 ((g _ _ (by omega) (by omega)).mp z))]
            exact no _ (nay (fun z => by omega))
    · rw [if_neg c2, decide_eq_false c2]
      simp only [Bool.false_and]
      rw [if_neg (by decide)]
      exact e
/-- the law's proviso is the class's -/
theorem n_holds (h : Sc c σ) {σT : Sg} (hT : Tab c σT) {t k : Nat} {W : Nat → Nat} (w5 : W 5 = nPr c) (hA : IA σ y (nCo c t) car) {sk : Int32} (ht : t < nTk c) (hk : k < nCo c t) (hs : sk ≠ -2) (hcar : ∃ cc, car k = nI cc ∧ cc < 1000) :
    DL_holds 1024 (nI t) y (nI k) sk σ = some (n2 (phC σT 14 W (nCo c t) t sk car k), σ) := by
  have bb := nPr_b c
  have bt := nTk_b c
  have bo := nCo_b c t
  obtain ⟨t1, t2, t3, t4, t5, t6⟩ := hT
  obtain ⟨-, -, -, -, p5⟩ := t6 t ht
  unfold DL_holds phC
  rw [w5]
  exact n_holds3 h hA (P := aG σT (14 + 7)) (st := aG σT (14 + 10) t) (by omega) hk (by omega) hs (p5 k (by omega)) (p5 (k + 1) (by omega)) hcar (fun i hi => by
    obtain ⟨v0, v1, v2, v3, v4, v5⟩ := t4 i hi
    exact ⟨v0, v1, v2, v5⟩) (nPr c) 0 FU (by omega) (by unfold FU; omega)
end

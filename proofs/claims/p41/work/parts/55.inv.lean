/-! WHAT HOLDS BETWEEN CALLS. Counts: W j is the book's field j -/
def InvC (σ : Sg) (b : Nat) (W : Nat → Nat) : Prop :=
  Fin0 σ ∧ isB b ∧
  (gI σ b 0 = nI (W 0) ∧ gI σ b 1 = nI (W 1) ∧ gI σ b 2 = nI (W 2) ∧ gI σ b 3 = nI (W 3) ∧ gI σ b 4 = nI (W 4) ∧ gI σ b 5 = nI (W 5) ∧ gI σ b 6 = nI (W 6) ∧ gI σ b 7 = nI (W 7) ∧ gI σ b 9 = nI (W 9)) ∧
  True ∧
  (W 0 ≤ 1200 ∧ W 1 ≤ 12 ∧ W 2 ≤ 6 ∧ W 3 ≤ 24 ∧ W 4 ≤ 5 ∧ W 5 ≤ 16 ∧ W 6 ≤ 16 ∧ W 7 ≤ 99 ∧ W 9 ≤ 8)
theorem InvC.fin {σ : Sg} {b : Nat} {W : Nat → Nat} (h : InvC σ b W) : Fin0 σ := h.1
theorem InvC.hb {σ : Sg} {b : Nat} {W : Nat → Nat} (h : InvC σ b W) : isB b := h.2.1
theorem InvC.bd {σ : Sg} {b : Nat} {W : Nat → Nat} (h : InvC σ b W) : W 0 ≤ 1200 ∧ W 1 ≤ 12 ∧ W 2 ≤ 6 ∧ W 3 ≤ 24 ∧ W 4 ≤ 5 ∧ W 5 ≤ 16 ∧ W 6 ≤ 16 ∧ W 7 ≤ 99 ∧ W 9 ≤ 8 := h.2.2.2.2
theorem InvC.x {σ : Sg} {b : Nat} {W : Nat → Nat} (h : InvC σ b W) : gI σ b 0 = nI (W 0) ∧ gI σ b 1 = nI (W 1) ∧ gI σ b 2 = nI (W 2) ∧ gI σ b 3 = nI (W 3) ∧ gI σ b 4 = nI (W 4) ∧ gI σ b 5 = nI (W 5) ∧ gI σ b 6 = nI (W 6) ∧ gI σ b 7 = nI (W 7) ∧ gI σ b 9 = nI (W 9) := h.2.2.1
/-- rows: bands, provisos, base amounts -/
def InvR (σ : Sg) (b : Nat) (W : Nat → Nat) : Prop :=
  (∀ i, i < W 4 → True ∧ True ∧ 1 ≤ (aG σ (b + 6) i 1).toInt ∧ (aG σ (b + 6) i 1).toInt ≤ 999) ∧
  (∀ p, p < W 5 → True ∧ True ∧ True ∧ True ∧ True ∧ True ∧
    1 ≤ (aG σ (b + 7) p 4).toInt ∧ (aG σ (b + 7) p 4).toInt ≤ 999999 ∧ (aG σ (b + 7) p 3 = 2 → (aG σ (b + 7) p 4).toInt ≤ 100)) ∧
  (∀ i, i < W 6 → True ∧ True ∧ True ∧ True ∧ 1 ≤ (aG σ (b + 8) i 3).toInt ∧ (aG σ (b + 8) i 3).toInt ≤ 999999)
/-- miles of ways -/
def InvM (σ : Sg) (b : Nat) : Prop := ∀ x y, x < 12 → y < 12 → True ∧ 0 ≤ (aG σ (b + 5) x y).toInt ∧ (aG σ (b + 5) x y).toInt ≤ 1000000
/-- tickets -/
def InvK (σ : Sg) (b : Nat) (W tn : Nat → Nat) : Prop :=
  ∀ t, t < W 9 → True ∧ True ∧ True ∧ aG σ (b + 9) t 2 = nI (tn t) ∧ True ∧ (∃ c, c < W 2 ∧ aG σ (b + 9) t 3 = nI c) ∧
    (1 ≤ tn t ∧ tn t ≤ 8) ∧ (1 ≤ (aG σ (b + 9) t 0).toInt ∧ (aG σ (b + 9) t 0).toInt ≤ 9999999) ∧ (aG σ (b + 9) t 1 = 0 ∨ aG σ (b + 9) t 1 = 1) ∧
    (∀ k, k < tn t → True ∧ True ∧ 1 ≤ (mlP (aG σ (b + 5)) (aG σ (b + 10) t) k).toInt ∧ (mlP (aG σ (b + 5)) (aG σ (b + 10) t) k).toInt ≤ 999999) ∧
    (∀ k, k ≤ tn t → ∃ x, x < W 1 ∧ aG σ (b + 10) t k = nI x)
/-- what is told, in both -/
def InvB (σ : Sg) (b : Nat) (W tn : Nat → Nat) : Prop := InvC σ b W ∧ InvR σ b W ∧ (0 < W 1 → InvM σ b) ∧ InvK σ b W tn ∧ 1 ≤ W 7
theorem InvB.c {σ : Sg} {b : Nat} {W tn : Nat → Nat} (h : InvB σ b W tn) : InvC σ b W := h.1
theorem InvB.r {σ : Sg} {b : Nat} {W tn : Nat → Nat} (h : InvB σ b W tn) : InvR σ b W := h.2.1
theorem InvB.m {σ : Sg} {b : Nat} {W tn : Nat → Nat} (h : InvB σ b W tn) : 0 < W 1 → InvM σ b := h.2.2.1
theorem InvB.k {σ : Sg} {b : Nat} {W tn : Nat → Nat} (h : InvB σ b W tn) : InvK σ b W tn := h.2.2.2.1
theorem InvB.w7 {σ : Sg} {b : Nat} {W tn : Nat → Nat} (h : InvB σ b W tn) : 1 ≤ W 7 := h.2.2.2.2
/-- a frame that leaves what is told as it is -/
def tbF (F : Nat → Nat → Bool) : Bool := ([3, 14].all fun b => [0, 1, 2, 3, 4, 5, 6, 7, 9].all fun j => !F b j) && ([3, 4, 5, 6, 7, 8, 9, 10, 11].all fun j => !F 51 j) && (frL.all fun q => !(F q.1 q.2.1))
def tbA (A : Nat → Bool) : Bool := [8, 9, 10, 11, 12, 13, 19, 20, 21, 22, 23, 24, 54, 55, 56, 57, 58, 59, 60].all fun a => !A a
theorem tbF_b {F : Nat → Nat → Bool} (h : tbF F = true) {b j : Nat} (hb : isB b) (hj : j ∈ [0, 1, 2, 3, 4, 5, 6, 7, 9]) : F b j = false := by
  unfold tbF at h
  simp only [Bool.and_eq_true] at h
  have := List.all_eq_true.mp h.1.1 b (by rcases hb with rfl | rfl <;> decide)
  have := List.all_eq_true.mp this j hj
  simpa using this
theorem tbF_m {F : Nat → Nat → Bool} (h : tbF F = true) {j : Nat} (hj : j ∈ [3, 4, 5, 6, 7, 8, 9, 10, 11]) : F 51 j = false := by
  unfold tbF at h
  simp only [Bool.and_eq_true] at h
  have := List.all_eq_true.mp h.1.2 j hj
  simpa using this
theorem tbF_f {F : Nat → Nat → Bool} (h : tbF F = true) : (frL.all fun q => !(F q.1 q.2.1)) = true := by
  unfold tbF at h
  simp only [Bool.and_eq_true] at h
  exact h.2
theorem tbA_in {A : Nat → Bool} (h : tbA A = true) {a : Nat} (ha : a ∈ [8, 9, 10, 11, 12, 13, 19, 20, 21, 22, 23, 24, 54, 55, 56, 57, 58, 59, 60]) : A a = false := by
  have := List.all_eq_true.mp h a ha
  simpa using this
theorem tbA_b {A : Nat → Bool} (h : tbA A = true) {b j : Nat} (hb : isB b) (hj : 5 ≤ j) (hj2 : j ≤ 10) : A (b + j) = false := by
  refine tbA_in h ?_
  have : j = 5 ∨ j = 6 ∨ j = 7 ∨ j = 8 ∨ j = 9 ∨ j = 10 := by omega
  rcases hb with rfl | rfl <;> rcases this with rfl | rfl | rfl | rfl | rfl | rfl <;> decide
/-- the tables of a later state are those of the first -/
theorem InvB.g {σ τ : Sg} {F : Nat → Nat → Bool} {A : Nat → Bool} {b j : Nat} (hb : isB b) (hf : Fr F A σ τ) (hA : tbA A = true) (hj : 5 ≤ j) (hj2 : j ≤ 10) : aG τ (b + j) = aG σ (b + j) :=
  funext fun x => funext fun y => hf.aG (b + j) (tbA_b hA hb hj hj2) x y
theorem InvC.fr {σ τ : Sg} {F : Nat → Nat → Bool} {A : Nat → Bool} {b : Nat} {W : Nat → Nat} (h : InvC σ b W) (hf : Fr F A σ τ) (hF : tbF F = true) : InvC τ b W := by
  obtain ⟨h1, hb, ⟨a0, a1, a2, a3, a4, a5, a6, a7, a9⟩, -, h5⟩ := h
  refine ⟨hf.fin h1 (tbF_f hF), hb, ⟨?_, ?_, ?_, ?_, ?_, ?_, ?_, ?_, ?_⟩, trivial, h5⟩
  · exact (hf.I b 0 (tbF_b hF hb (by decide))).trans a0
  · exact (hf.I b 1 (tbF_b hF hb (by decide))).trans a1
  · exact (hf.I b 2 (tbF_b hF hb (by decide))).trans a2
  · exact (hf.I b 3 (tbF_b hF hb (by decide))).trans a3
  · exact (hf.I b 4 (tbF_b hF hb (by decide))).trans a4
  · exact (hf.I b 5 (tbF_b hF hb (by decide))).trans a5
  · exact (hf.I b 6 (tbF_b hF hb (by decide))).trans a6
  · exact (hf.I b 7 (tbF_b hF hb (by decide))).trans a7
  · exact (hf.I b 9 (tbF_b hF hb (by decide))).trans a9
theorem InvB.fr {σ τ : Sg} {F : Nat → Nat → Bool} {A : Nat → Bool} {b : Nat} {W tn : Nat → Nat} (h : InvB σ b W tn) (hf : Fr F A σ τ) (hF : tbF F = true) (hA : tbA A = true) : InvB τ b W tn := by
  obtain ⟨hc, ⟨r1, r2, r3⟩, hm, hk, h7⟩ := h
  have hb := hc.hb
  have g5 := InvB.g (j := 5) hb hf hA (by omega) (by omega)
  have g6 := InvB.g (j := 6) hb hf hA (by omega) (by omega)
  have g7 := InvB.g (j := 7) hb hf hA (by omega) (by omega)
  have g8 := InvB.g (j := 8) hb hf hA (by omega) (by omega)
  have g9 := InvB.g (j := 9) hb hf hA (by omega) (by omega)
  have g10 := InvB.g (j := 10) hb hf hA (by omega) (by omega)
  refine ⟨hc.fr hf hF, ⟨?_, ?_, ?_⟩, ?_, ?_, h7⟩
  · rw [g6]; exact r1
  · rw [g7]; exact r2
  · rw [g8]; exact r3
  · intro hw; unfold InvM; rw [g5]; exact hm hw
  · unfold InvK; rw [g5, g9, g10]; exact hk

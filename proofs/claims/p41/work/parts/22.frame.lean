/-! what a run leaves as it was: fields outside F, arrays outside A -/
def Fr (F : Nat → Nat → Bool) (A : Nat → Bool) (σ σ' : Sg) : Prop :=
  (∀ a k, F a k = false → gI σ' a k = gI σ a k ∧ gJ σ' a k = gJ σ a k ∧ gR σ' a k = gR σ a k) ∧ (∀ a, A a = false → (∀ i, aI σ' a i = aI σ a i) ∧ (∀ i, aJ σ' a i = aJ σ a i) ∧ ∀ i j, aG σ' a i j = aG σ a i j) ∧ gN σ' = gN σ ∧ tl σ' = tl σ
theorem Fr.rf {F : Nat → Nat → Bool} {A : Nat → Bool} {σ : Sg} : Fr F A σ σ := ⟨fun _ _ _ => ⟨rfl, rfl, rfl⟩, fun _ _ => ⟨fun _ => rfl, fun _ => rfl, fun _ _ => rfl⟩, rfl, rfl⟩
theorem Fr.trans {F : Nat → Nat → Bool} {A : Nat → Bool} {σ τ υ : Sg} (h : Fr F A σ τ) (k : Fr F A τ υ) : Fr F A σ υ :=
  ⟨fun a i hf => ⟨(k.1 a i hf).1.trans (h.1 a i hf).1, (k.1 a i hf).2.1.trans (h.1 a i hf).2.1, (k.1 a i hf).2.2.trans (h.1 a i hf).2.2⟩, fun a ha => ⟨fun i => ((k.2.1 a ha).1 i).trans ((h.2.1 a ha).1 i), fun i => ((k.2.1 a ha).2.1 i).trans ((h.2.1 a ha).2.1 i), fun i j => ((k.2.1 a ha).2.2 i j).trans ((h.2.1 a ha).2.2 i j)⟩, k.2.2.1.trans h.2.2.1, k.2.2.2.trans h.2.2.2⟩
theorem Fr.mono {F F' : Nat → Nat → Bool} {A A' : Nat → Bool} {σ τ : Sg} (h : Fr F A σ τ) (hF : ∀ a k, F' a k = false → F a k = false) (hA : ∀ a, A' a = false → A a = false) : Fr F' A' σ τ :=
  ⟨fun a i hf => h.1 a i (hF a i hf), fun a ha => h.2.1 a (hA a ha), h.2.2⟩
theorem Fr.I {F : Nat → Nat → Bool} {A : Nat → Bool} {σ τ : Sg} (h : Fr F A σ τ) (a k : Nat) (hf : F a k = false) : gI τ a k = gI σ a k := (h.1 a k hf).1
theorem Fr.J {F : Nat → Nat → Bool} {A : Nat → Bool} {σ τ : Sg} (h : Fr F A σ τ) (a k : Nat) (hf : F a k = false) : gJ τ a k = gJ σ a k := (h.1 a k hf).2.1
theorem Fr.R {F : Nat → Nat → Bool} {A : Nat → Bool} {σ τ : Sg} (h : Fr F A σ τ) (a k : Nat) (hf : F a k = false) : gR τ a k = gR σ a k := (h.1 a k hf).2.2
theorem Fr.aI {F : Nat → Nat → Bool} {A : Nat → Bool} {σ τ : Sg} (h : Fr F A σ τ) (a : Nat) (ha : A a = false) (i : Nat) : aI τ a i = aI σ a i := (h.2.1 a ha).1 i
theorem Fr.aJ {F : Nat → Nat → Bool} {A : Nat → Bool} {σ τ : Sg} (h : Fr F A σ τ) (a : Nat) (ha : A a = false) (i : Nat) : aJ τ a i = aJ σ a i := (h.2.1 a ha).2.1 i
theorem Fr.aG {F : Nat → Nat → Bool} {A : Nat → Bool} {σ τ : Sg} (h : Fr F A σ τ) (a : Nat) (ha : A a = false) (i j : Nat) : aG τ a i j = aG σ a i j := (h.2.1 a ha).2.2 i j
theorem fr_ne {F : Nat → Nat → Bool} {a k x y : Nat} (h : F a k = true) (h2 : F x y = false) : ¬ (x = a ∧ y = k) := by
  rintro ⟨rfl, rfl⟩
  rw [h] at h2
  cases h2
theorem fr_nA {A : Nat → Bool} {a x : Nat} (h : A a = true) (h2 : A x = false) : ¬ x = a := by
  rintro rfl
  rw [h] at h2
  cases h2
theorem Fr.pI {F : Nat → Nat → Bool} {A : Nat → Bool} {σ τ : Sg} (h : Fr F A σ τ) (a k : Nat) (v : Int32) (hf : F a k = true) : Fr F A σ (pI τ a k v) :=
  ⟨fun x y hx => ⟨by rw [gI_pI, if_neg (fr_ne hf hx)]; exact (h.1 x y hx).1, (h.1 x y hx).2⟩, h.2⟩
theorem Fr.pJ {F : Nat → Nat → Bool} {A : Nat → Bool} {σ τ : Sg} (h : Fr F A σ τ) (a k : Nat) (v : Int64) (hf : F a k = true) : Fr F A σ (pJ τ a k v) :=
  ⟨fun x y hx => ⟨(h.1 x y hx).1, by rw [gJ_pJ, if_neg (fr_ne hf hx)]; exact (h.1 x y hx).2.1, (h.1 x y hx).2.2⟩, h.2⟩
theorem Fr.pR {F : Nat → Nat → Bool} {A : Nat → Bool} {σ τ : Sg} (h : Fr F A σ τ) (a k : Nat) (v : Nat) (hf : F a k = true) : Fr F A σ (pR τ a k v) :=
  ⟨fun x y hx => ⟨(h.1 x y hx).1, (h.1 x y hx).2.1, by rw [gR_pR, if_neg (fr_ne hf hx)]; exact (h.1 x y hx).2.2⟩, h.2⟩
theorem Fr.wI {F : Nat → Nat → Bool} {A : Nat → Bool} {σ τ : Sg} (h : Fr F A σ τ) (a k : Nat) (v : Int32) (ha : A a = true) : Fr F A σ (wI τ a k v) :=
  ⟨h.1, fun x hx => ⟨fun i => by rw [aI_wI, if_neg (fun z => fr_nA ha hx z.1)]; exact (h.2.1 x hx).1 i, (h.2.1 x hx).2⟩, h.2.2⟩
theorem Fr.wJ {F : Nat → Nat → Bool} {A : Nat → Bool} {σ τ : Sg} (h : Fr F A σ τ) (a k : Nat) (v : Int64) (ha : A a = true) : Fr F A σ (wJ τ a k v) :=
  ⟨h.1, fun x hx => ⟨(h.2.1 x hx).1, fun i => by rw [aJ_wJ, if_neg (fun z => fr_nA ha hx z.1)]; exact (h.2.1 x hx).2.1 i, (h.2.1 x hx).2.2⟩, h.2.2⟩
theorem Fr.wG {F : Nat → Nat → Bool} {A : Nat → Bool} {σ τ : Sg} (h : Fr F A σ τ) (a i k : Nat) (v : Int32) (ha : A a = true) : Fr F A σ (wG τ a i k v) :=
  ⟨h.1, fun x hx => ⟨(h.2.1 x hx).1, (h.2.1 x hx).2.1, fun y z => by rw [aG_wG, if_neg (fun q => fr_nA ha hx q.1)]; exact (h.2.1 x hx).2.2 y z⟩, h.2.2⟩
theorem Fr.fin {F : Nat → Nat → Bool} {A : Nat → Bool} {σ τ : Sg} (h : Fr F A σ τ) (hF : Fin0 σ) (hf : (frL.all fun q => !(F q.1 q.2.1)) = true) : Fin0 τ := by
  refine ⟨h.2.2.1.trans hF.1, fun q hq => ?_⟩
  have := List.all_eq_true.mp hf q hq
  rw [h.R q.1 q.2.1 (by simpa using this)]
  exact hF.2 q hq
/-- sets of fields and arrays, by lists -/
def fF (l : List (Nat × Nat)) (a k : Nat) : Bool := l.any fun q => q.1 == a && q.2 == k
def fA (l : List Nat) (a : Nat) : Bool := l.any fun q => q == a
theorem fF_in {l : List (Nat × Nat)} {a k : Nat} (h : (a, k) ∈ l) : fF l a k = true := List.any_eq_true.mpr ⟨_, h, by simp⟩
theorem fA_in {l : List Nat} {a : Nat} (h : a ∈ l) : fA l a = true := List.any_eq_true.mpr ⟨_, h, by simp⟩
theorem Fr.up {l l2 : List (Nat × Nat)} {m m2 : List Nat} {σ τ : Sg} (h : Fr (fF l) (fA m) σ τ) (h1 : (l.all fun q => fF l2 q.1 q.2) = true) (h2 : (m.all fun q => fA m2 q) = true) : Fr (fF l2) (fA m2) σ τ := by
  refine h.mono (fun a k hf => ?_) (fun a ha => ?_)
  · cases hq : fF l a k with
    | false => rfl
    | true =>
      obtain ⟨q, hq1, hq2⟩ := List.any_eq_true.mp hq
      simp only [Bool.and_eq_true, beq_iff_eq] at hq2
      have := List.all_eq_true.mp h1 q hq1
      rw [hq2.1, hq2.2, hf] at this
      exact this.symm
  · cases hq : fA m a with
    | false => rfl
    | true =>
      obtain ⟨q, hq1, hq2⟩ := List.any_eq_true.mp hq
      simp only [beq_iff_eq] at hq2
      have := List.all_eq_true.mp h2 q hq1
      rw [hq2, ha] at this
      exact this.symm
/-! sums -/
def sI (f : Nat → Int) (i : Nat) : Nat → Int
  | 0 => 0
  | d + 1 => f i + sI f (i + 1) d
theorem sI_congr {f g : Nat → Int} : ∀ (d i : Nat), (∀ k, i ≤ k → k < i + d → f k = g k) → sI f i d = sI g i d
  | 0, _, _ => rfl
  | d + 1, i, h => by
    unfold sI
    rw [h i (Nat.le_refl _) (by omega), sI_congr d (i + 1) (fun k h1 h2 => h k (by omega) (by omega))]
theorem sI_bound {f : Nat → Int} {B : Int} (hB : 0 ≤ B) : ∀ (d i : Nat), (∀ k, i ≤ k → k < i + d → 0 ≤ f k ∧ f k ≤ B) → 0 ≤ sI f i d ∧ sI f i d ≤ B * d
  | 0, _, _ => by simp [sI]
  | d + 1, i, h => by
    unfold sI
    have h1 := h i (Nat.le_refl _) (by omega)
    have h2 := sI_bound hB d (i + 1) (fun k h1 h2 => h k (by omega) (by omega))
    have e : B * ((d + 1 : Nat) : Int) = B * (d : Int) + B := by rw [Int.natCast_add, Int.mul_add]; simp
    rw [e]
    omega
theorem sI_last {f : Nat → Int} : ∀ (d i : Nat), sI f i (d + 1) = sI f i d + f (i + d)
  | 0, i => by simp [sI]
  | d + 1, i => by
    have := sI_last (f := f) d (i + 1)
    rw [show sI f i (d + 1 + 1) = f i + sI f (i + 1) (d + 1) from rfl, this, show sI f i (d + 1) = f i + sI f (i + 1) d from rfl, show i + 1 + d = i + (d + 1) by omega]
    omega
theorem sI_split {f : Nat → Int} : ∀ (d e i : Nat), sI f i (d + e) = sI f i d + sI f (i + d) e
  | 0, e, i => by simp [sI]
  | d + 1, e, i => by
    rw [show d + 1 + e = d + e + 1 by omega, show sI f i (d + e + 1) = f i + sI f (i + 1) (d + e) from rfl, sI_split d e (i + 1), show sI f i (d + 1) = f i + sI f (i + 1) d from rfl, show i + 1 + d = i + (d + 1) by omega]
    omega
theorem sI_zero {f : Nat → Int} (d i : Nat) (h : ∀ k, i ≤ k → k < i + d → f k = 0) : sI f i d = 0 := by
  rw [sI_congr (g := fun _ => 0) d i h]
  clear h
  induction d generalizing i with
  | zero => rfl
  | succ d ih => unfold sI; rw [ih]; rfl
theorem sI_add {f g : Nat → Int} : ∀ (d i : Nat), sI (fun k => f k + g k) i d = sI f i d + sI g i d
  | 0, _ => rfl
  | d + 1, i => by
    unfold sI
    rw [sI_add d (i + 1)]
    omega
theorem sI_mul {f : Nat → Int} {c : Int} : ∀ (d i : Nat), sI (fun k => c * f k) i d = c * sI f i d
  | 0, _ => by simp [sI]
  | d + 1, i => by
    unfold sI
    rw [sI_mul d (i + 1), Int.mul_add]
theorem sI_le {f g : Nat → Int} : ∀ (d i : Nat), (∀ k, i ≤ k → k < i + d → f k ≤ g k) → sI f i d ≤ sI g i d
  | 0, _, _ => Int.le_refl _
  | d + 1, i, h => by
    unfold sI
    have h1 := h i (Nat.le_refl _) (by omega)
    have h2 := sI_le d (i + 1) (fun k h1 h2 => h k (by omega) (by omega))
    omega
theorem sI_pos {f : Nat → Int} : ∀ (d i : Nat), (∀ k, i ≤ k → k < i + d → 0 ≤ f k) → sI f i d = 0 → ∀ k, i ≤ k → k < i + d → f k = 0
  | 0, _, _, _, k, h1, h2 => by omega
  | d + 1, i, h, hs, k, h1, h2 => by
    unfold sI at hs
    have h3 := h i (Nat.le_refl _) (by omega)
    have h4 := (sI_bound (f := fun k => f k) (B := 0) (Int.le_refl _) 0 (i + 1) (fun k h1 h2 => by omega)).1
    have h5 : 0 ≤ sI f (i + 1) d := by
      have := sI_le (f := fun _ => 0) (g := f) d (i + 1) (fun k h1 h2 => h k (by omega) (by omega))
      rw [sI_zero d (i + 1) (fun _ _ _ => rfl)] at this
      exact this
    by_cases hk : k = i
    · subst hk; omega
    · exact sI_pos d (i + 1) (fun k h1 h2 => h k (by omega) (by omega)) (by omega) k (by omega) (by omega)
/-! long arithmetic without overflow -/
def sm (x : Int) : Prop := -9223372036854775808 ≤ x ∧ x < 9223372036854775808
theorem l_add {x y : Int64} (h : sm (x.toInt + y.toInt)) : (x + y).toInt = x.toInt + y.toInt := by
  obtain ⟨h1, h2⟩ := h
  rw [Int64.toInt_add]
  exact Int.bmod_eq_of_le (by omega) (by omega)
theorem l_sub {x y : Int64} (h : sm (x.toInt - y.toInt)) : (x - y).toInt = x.toInt - y.toInt := by
  obtain ⟨h1, h2⟩ := h
  rw [Int64.toInt_sub]
  exact Int.bmod_eq_of_le (by omega) (by omega)
theorem l_mul {x y : Int64} (h : sm (x.toInt * y.toInt)) : (x * y).toInt = x.toInt * y.toInt := by
  obtain ⟨h1, h2⟩ := h
  rw [Int64.toInt_mul]
  exact Int.bmod_eq_of_le (by omega) (by omega)
theorem l_inj {x y : Int64} (h : x.toInt = y.toInt) : x = y := Int64.toInt_inj.mp h
theorem l_0 : (0 : Int64).toInt = 0 := by decide
theorem l_eq {x y : Int64} : x = y ↔ x.toInt = y.toInt := Int64.toInt_inj.symm
theorem l_lt {x y : Int64} : x < y ↔ x.toInt < y.toInt := Int64.lt_iff_toInt_lt
theorem l_le {x y : Int64} : x ≤ y ↔ x.toInt ≤ y.toInt := Int64.le_iff_toInt_le

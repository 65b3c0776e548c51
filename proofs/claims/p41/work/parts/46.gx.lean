/-! WHAT STAYS, in class and law -/
def Gx (F : Nat → Nat → Bool) (A : Nat → Bool) (X : Nat → Prop) (σ τ : Sg) (k : Nat) : Prop :=
  (∀ a j, a < 1000 → F a j = false → gI τ a j = gI σ a j ∧ gJ τ a j = gJ σ a j ∧ gR τ a j = gR σ a j) ∧ (∀ a, a < 1000 → A a = false → (∀ i, aI τ a i = aI σ a i) ∧ (∀ i, aJ τ a i = aJ σ a i) ∧ ∀ i j, aG τ a i j = aG σ a i j) ∧
  (∀ a, 1000 ≤ a → a < 2000 + gM σ → ¬ X a → Sm σ τ a) ∧ gN τ = gN σ ∧ gM σ ≤ gM τ ∧ gM τ ≤ gM σ + 40 * k ∧ gZ σ ≤ gZ τ ∧ gZ τ ≤ gZ σ + 2000 * k
theorem Gx.rf {F : Nat → Nat → Bool} {A : Nat → Bool} {X : Nat → Prop} {σ : Sg} : Gx F A X σ σ 0 :=
  ⟨fun _ _ _ _ => ⟨rfl, rfl, rfl⟩, fun _ _ _ => ⟨fun _ => rfl, fun _ => rfl, fun _ _ => rfl⟩, fun _ _ _ _ => Sm.rf, rfl, Nat.le_refl _, by omega, Nat.le_refl _, by omega⟩
theorem Gx.tr {F F' : Nat → Nat → Bool} {A A' : Nat → Bool} {X Y : Nat → Prop} {σ τ υ : Sg} {k j : Nat} (h : Gx F A X σ τ k) (h' : Gx F' A' Y τ υ j) (hF : ∀ a i, F a i = false → F' a i = false) (hA : ∀ a, A a = false → A' a = false) (hXY : ∀ a, a < 2000 + gM σ → Y a → X a) : Gx F A X σ υ (k + j) := by
  obtain ⟨a1, a2, a3, a4, a5, a6, a7, a8⟩ := h
  obtain ⟨b1, b2, b3, b4, b5, b6, b7, b8⟩ := h'
  refine ⟨fun a i h1 h2 => ?_, fun a h1 h2 => ?_, fun a h1 h2 h3 => (a3 a h1 h2 h3).tr (b3 a h1 (by omega) (fun z => h3 (hXY a h2 z))), b4.trans a4, by omega, by omega, by omega, by omega⟩
  · obtain ⟨p1, p2, p3⟩ := a1 a i h1 h2
    obtain ⟨q1, q2, q3⟩ := b1 a i h1 (hF a i h2)
    exact ⟨q1.trans p1, q2.trans p2, q3.trans p3⟩
  · obtain ⟨p1, p2, p3⟩ := a2 a h1 h2
    obtain ⟨q1, q2, q3⟩ := b2 a h1 (hA a h2)
    exact ⟨fun i => (q1 i).trans (p1 i), fun i => (q2 i).trans (p2 i), fun i j => (q3 i j).trans (p3 i j)⟩
theorem Gx.mono {F F' : Nat → Nat → Bool} {A A' : Nat → Bool} {X Y : Nat → Prop} {σ τ : Sg} {k j : Nat} (h : Gx F A X σ τ k) (hF : ∀ a i, F' a i = false → F a i = false) (hA : ∀ a, A' a = false → A a = false) (hXY : ∀ a, a < 2000 + gM σ → X a → Y a) (hk : k ≤ j) : Gx F' A' Y σ τ j := by
  obtain ⟨a1, a2, a3, a4, a5, a6, a7, a8⟩ := h
  exact ⟨fun a i h1 h2 => a1 a i h1 (hF a i h2), fun a h1 h2 => a2 a h1 (hA a h2), fun a h1 h2 h3 => a3 a h1 h2 (fun z => h3 (hXY a h2 z)), a4, a5, by omega, a7, by omega⟩
theorem G1.gx {F : Nat → Nat → Bool} {A : Nat → Bool} {X : Nat → Prop} {σ τ : Sg} {k : Nat} (h : G1 X σ τ k) (hX : ∀ a, a < 1000 → ¬ X a) : Gx F A X σ τ k := by
  obtain ⟨a1, a2, a3, a4, a5, a6, a7⟩ := h
  refine ⟨fun a j h1 _ => ?_, fun a h1 _ => ?_, fun a _ h2 h3 => a1 a h2 h3, a2, a4, a5, a6, a7⟩
  · obtain ⟨s1, s2, s3, s4, s5, s6⟩ := a1 a (by omega) (hX a h1)
    exact ⟨s1 j, s2 j, s3 j⟩
  · obtain ⟨s1, s2, s3, s4, s5, s6⟩ := a1 a (by omega) (hX a h1)
    exact ⟨s4, s5, a3 a⟩
theorem hi_F {l : List (Nat × Nat)} (h : (l.all fun q => decide (q.1 < 1000)) = true) {a k : Nat} (ha : 1000 ≤ a) : fF l a k = false := by
  cases e : fF l a k with
  | false => rfl
  | true =>
    unfold fF at e
    obtain ⟨q, q1, q2⟩ := List.any_eq_true.mp e
    have := List.all_eq_true.mp h q q1
    simp only [Bool.and_eq_true, beq_iff_eq, decide_eq_true_eq] at q2 this
    omega
theorem hi_A {m : List Nat} (h : (m.all fun q => decide (q < 1000)) = true) {a : Nat} (ha : 1000 ≤ a) : fA m a = false := by
  cases e : fA m a with
  | false => rfl
  | true =>
    unfold fA at e
    obtain ⟨q, q1, q2⟩ := List.any_eq_true.mp e
    have := List.all_eq_true.mp h q q1
    simp only [beq_iff_eq, decide_eq_true_eq] at q2 this
    omega
theorem Fr.gx {l : List (Nat × Nat)} {m : List Nat} {X : Nat → Prop} {σ τ : Sg} (h : Fr (fF l) (fA m) σ τ) (h1 : (l.all fun q => decide (q.1 < 1000)) = true) (h2 : (m.all fun q => decide (q < 1000)) = true) : Gx (fF l) (fA m) X σ τ 0 := by
  obtain ⟨a1, a2, a3, a4⟩ := h
  have eM : gM τ = gM σ := congrArg (fun w : Tg => w.2.2.1) a4
  have eZ : gZ τ = gZ σ := congrArg (fun w : Tg => w.2.2.2.1) a4
  have eS : gS τ = gS σ := congrArg (fun w : Tg => w.2.2.2.2) a4
  refine ⟨fun a j _ hf => a1 a j hf, fun a _ hf => a2 a hf, fun a ha _ _ => ?_, a3, by omega, by omega, by omega, by omega⟩
  have f1 := fun j => a1 a j (hi_F h1 ha)
  obtain ⟨f2, f3, -⟩ := a2 a (hi_A h2 ha)
  exact ⟨fun j => (f1 j).1, fun j => (f1 j).2.1, fun j => (f1 j).2.2, f2, f3, by rw [eS]⟩
theorem fr_eq {F : Nat → Nat → Bool} {A : Nat → Bool} {σ τ : Sg} (h : Fr F A σ τ) : gM τ = gM σ ∧ gZ τ = gZ σ := ⟨congrArg (fun w : Tg => w.2.2.1) h.2.2.2, congrArg (fun w : Tg => w.2.2.2.1) h.2.2.2⟩
theorem ckT2_fr {F : Nat → Nat → Bool} {A : Nat → Bool} {σ τ : Sg} (h : Fr F A σ τ) : ckT2 σ τ = true := by
  obtain ⟨h1, h2⟩ := fr_eq h
  unfold ckT2
  simp [h1, h2]
def stl (τ : Sg) (w : Tg) : Sg := (τ.1, τ.2.1, τ.2.2.1, τ.2.2.2.1, τ.2.2.2.2.1, τ.2.2.2.2.2.1, w)
/-- as far as the class is concerned -/
theorem Gx.fr {F : Nat → Nat → Bool} {A : Nat → Bool} {X : Nat → Prop} {σ τ : Sg} {k : Nat} (h : Gx F A X σ τ k) : Fr (fun a j => F a j || decide (1000 ≤ a)) (fun a => A a || decide (1000 ≤ a)) σ (stl τ (tl σ)) := by
  obtain ⟨a1, a2, -⟩ := h
  refine ⟨fun a j hf => ?_, fun a hf => ?_, rfl, rfl⟩
  · simp only [Bool.or_eq_false_iff, decide_eq_false_iff_not] at hf
    exact a1 a j (by omega) hf.1
  · simp only [Bool.or_eq_false_iff, decide_eq_false_iff_not] at hf
    exact a2 a (by omega) hf.1
theorem StI.x {F : Nat → Nat → Bool} {A : Nat → Bool} {X : Nat → Prop} {σ τ : Sg} {a k : Nat} {t : List Nat} (h : StI σ a t) (hg : Gx F A X σ τ k) (h1 : ¬ X a) (h2 : ¬ X (gR σ a 0)) : StI τ a t := by
  obtain ⟨a1, a2, a3, a4, a5, a6, a7⟩ := h
  have hm := hg.2.2.2.2.1
  have hl : 1000 ≤ a ∧ a < 2000 + gM σ := by rcases a1 with z | z <;> omega
  obtain ⟨s1, s2, s3, s4, s5, s6⟩ := hg.2.2.1 a hl.1 hl.2 h1
  obtain ⟨r1, r2, r3, r4, r5, r6⟩ := hg.2.2.1 _ a3 a4 h2
  refine ⟨?_, by rw [s1]; exact a2, by rw [s3]; exact a3, by rw [s3]; omega, by rw [s3, r6]; exact a5, fun i hi => by rw [s3, r4]; exact a6 i hi, a7⟩
  rw [s6]
  rcases a1 with ⟨z1, z2, z3⟩ | z
  · exact Or.inl ⟨z1, z2, by omega⟩
  · exact Or.inr z
theorem OutP.x {L : Nat} {xs : Nat → Int32} {F : Nat → Nat → Bool} {A : Nat → Bool} {X : Nat → Prop} {σ τ : Sg} {k : Nat} (h : OutP L xs σ) (hg : Gx F A X σ τ k) (hX : ∀ a, a < 2000 → ¬ X a) : OutP L xs τ := by
  intro a h1 h2
  obtain ⟨s1, s2, s3, s4, s5, s6⟩ := hg.2.2.1 a h1 (by omega) (hX a h2)
  obtain ⟨o1, o2, o3, o4⟩ := h a h1 h2
  exact ⟨s6.trans o1, fun j => (s4 j).trans (o2 j), fun j => (s3 j).trans (o3 j), fun j => (s1 j).trans (o4 j)⟩
theorem WT.x {c : Nat → Int32} {F : Nat → Nat → Bool} {A : Nat → Bool} {X : Nat → Prop} {σ τ : Sg} {k : Nat} (h : WT c σ) (hg : Gx F A X σ τ k) (hX : ∀ a, a < 2000 → ¬ X a) : WT c τ := by
  obtain ⟨⟨L, xs, h1, h2, h3⟩, h4⟩ := h
  exact ⟨⟨L, xs, h1.x hg hX, h2, h3⟩, hg.2.2.2.1.trans h4⟩

/-! legs and ways -/
def lgR (leg : Nat → Int32) (x y : Int32) : Nat → Nat → Int32
  | 0, _ => 1000000
  | d + 1, i => if isP (leg (3 * i)) (leg (3 * i + 1)) x y then leg (3 * i + 2) else lgR leg x y d (i + 1)
def LG (σ : Sg) (W : Nat → Nat) (x y : Nat) : Int32 := lgR (aI σ 53) (nI x) (nI y) (W 3) 0
/-- a distance that is no more than the legs -/
def QM (L : Nat → Nat → Int) (M : Nat → Nat → Int) : Prop := (∀ x, x < 12 → M x x = 0) ∧ (∀ x y, x < 12 → y < 12 → x ≠ y → M x y ≤ L x y) ∧ ∀ x y z, x < 12 → y < 12 → z < 12 → M x z ≤ M x y + M y z
/-- the greatest of them -/
def Clo (L D : Nat → Nat → Int) : Prop := QM L D ∧ ∀ M, QM L M → ∀ x y, x < 12 → y < 12 → M x y ≤ D x y
theorem clo_uniq {L D E : Nat → Nat → Int} (h : Clo L D) (k : Clo L E) {x y : Nat} (hx : x < 12) (hy : y < 12) : D x y = E x y :=
  Int.le_antisymm (k.2 D h.1 x y hx hy) (h.2 E k.1 x y hx hy)
/-- what holds of the legs -/
def InvD (σ : Sg) (b : Nat) (W : Nat → Nat) : Prop :=
  (∀ x y, x < 12 → y < 12 → aG σ (b + 4) x y = if LG σ W x y = 1000000 then 0 else LG σ W x y) ∧
  (∀ i, i < W 3 → ∃ x y, x < W 1 ∧ y < W 1 ∧ x ≠ y ∧ aI σ 53 (3 * i) = nI x ∧ aI σ 53 (3 * i + 1) = nI y ∧ 1 ≤ (aI σ 53 (3 * i + 2)).toInt ∧ (aI σ 53 (3 * i + 2)).toInt ≤ 9999) ∧
  (0 < W 1 → Clo (fun x y => (LG σ W x y).toInt) (fun x y => (aG σ (b + 5) x y).toInt))
theorem lgR_in {leg : Nat → Int32} {P n : Nat} (hP : P ≤ 12) (h : ∀ i, i < n → ∃ x y, x < P ∧ y < P ∧ x ≠ y ∧ leg (3 * i) = nI x ∧ leg (3 * i + 1) = nI y ∧ 1 ≤ (leg (3 * i + 2)).toInt ∧ (leg (3 * i + 2)).toInt ≤ 9999) {x y : Nat} (hx : x < 12) (hy : y < 12) : ∀ (d i : Nat), i + d ≤ n →
    lgR leg (nI x) (nI y) d i = 1000000 ∨ (1 ≤ (lgR leg (nI x) (nI y) d i).toInt ∧ (lgR leg (nI x) (nI y) d i).toInt ≤ 9999 ∧ x < P ∧ y < P ∧ x ≠ y)
  | 0, _, _ => Or.inl rfl
  | d + 1, i, hi => by
    unfold lgR
    obtain ⟨p, q, hp, hq, hpq, e1, e2, e3, e4⟩ := h i (by omega)
    cases c : isP (leg (3 * i)) (leg (3 * i + 1)) (nI x) (nI y) with
    | false => exact lgR_in hP h hx hy d (i + 1) (by omega)
    | true =>
      refine Or.inr ⟨e3, e4, ?_⟩
      unfold isP at c
      rw [e1, e2] at c
      simp only [Bool.or_eq_true, Bool.and_eq_true, decide_eq_true_eq] at c
      rcases c with ⟨c1, c2⟩ | ⟨c1, c2⟩
      · rw [nI_eq (by omega) (by omega)] at c1 c2
        omega
      · rw [nI_eq (by omega) (by omega)] at c1 c2
        omega
theorem InvD.lg {σ : Sg} {b x y : Nat} {W : Nat → Nat} (h : InvD σ b W) (hP : W 1 ≤ 12) (hx : x < 12) (hy : y < 12) : LG σ W x y = 1000000 ∨ (1 ≤ (LG σ W x y).toInt ∧ (LG σ W x y).toInt ≤ 9999 ∧ x < W 1 ∧ y < W 1 ∧ x ≠ y) :=
  lgR_in hP h.2.1 hx hy (W 3) 0 (by omega)
abbrev dsI (σ : Sg) (b x y : Nat) : Int := (aG σ (b + 5) x y).toInt
/-- a next place on the way -/
def nxB (σ : Sg) (b : Nat) (W : Nat → Nat) (g h j : Nat) : Bool := decide (LG σ W h j ≠ 1000000) && decide ((LG σ W h j).toInt + dsI σ b j g = dsI σ b h g)
theorem w_mil : (1000000 : Int32).toInt = 1000000 := by decide
theorem way_ex {σ : Sg} {b g h : Nat} {W : Nat → Nat} (hW1 : 0 < W 1) (hD : InvD σ b W) (hM : InvM σ b) (hP : W 1 ≤ 12) (hg : g < 12) (hh : h < 12) (hgh : h ≠ g) (hw : dsI σ b h g < 1000000) : ∃ j, j < 12 ∧ nxB σ b W g h j = true := by
  apply Classical.byContradiction
  intro hn
  have hno : ∀ j, j < 12 → j ≠ h → dsI σ b h g + 1 ≤ (LG σ W h j).toInt + dsI σ b j g := by
    intro j hj hjh
    have hfalse : nxB σ b W g h j ≠ true := fun z => hn ⟨j, hj, z⟩
    have nn := (hM j g hj hg).2.1
    rcases hD.lg hP hh hj with z | ⟨z1, z2, -⟩
    · rw [z, w_mil]
      have : 0 ≤ dsI σ b j g := nn
      omega
    · have ne : LG σ W h j ≠ 1000000 := fun z => by rw [z, w_mil] at z2; omega
      have t1 := (hD.2.2 hW1).1.2.2 h j g hh hj hg
      have t2 := (hD.2.2 hW1).1.2.1 h j hh hj (Ne.symm hjh)
      have t1' : dsI σ b h g ≤ dsI σ b h j + dsI σ b j g := t1
      have t2' : dsI σ b h j ≤ (LG σ W h j).toInt := t2
      have neq : ¬ (LG σ W h j).toInt + dsI σ b j g = dsI σ b h g := fun z => hfalse (by unfold nxB; rw [decide_eq_true ne, decide_eq_true z]; rfl)
      omega
  -- a potential
  have hQ : QM (fun x y => (LG σ W x y).toInt) (fun x y => (dsI σ b x g + if x = h then 1 else 0) - (dsI σ b y g + if y = h then 1 else 0)) := by
    refine ⟨fun x hx => Int.sub_self _, fun x y hx hy hxy => ?_, fun x y z hx hy hz => ?_⟩
    rotate_left
    · show (dsI σ b x g + if x = h then 1 else 0) - (dsI σ b z g + if z = h then 1 else 0) ≤ (dsI σ b x g + if x = h then 1 else 0) - (dsI σ b y g + if y = h then 1 else 0) + ((dsI σ b y g + if y = h then 1 else 0) - (dsI σ b z g + if z = h then 1 else 0))
      omega
    have t1 : dsI σ b x g ≤ dsI σ b x y + dsI σ b y g := (hD.2.2 hW1).1.2.2 x y g hx hy hg
    have t2 : dsI σ b x y ≤ (LG σ W x y).toInt := (hD.2.2 hW1).1.2.1 x y hx hy hxy
    show (dsI σ b x g + if x = h then 1 else 0) - (dsI σ b y g + if y = h then 1 else 0) ≤ (LG σ W x y).toInt
    by_cases c1 : x = h
    · subst c1
      have := hno y hy (Ne.symm hxy)
      rw [if_pos rfl, if_neg (Ne.symm hxy)]
      omega
    · rw [if_neg c1]
      split <;> omega
  have := (hD.2.2 hW1).2 _ hQ h g hh hg
  have z0 : dsI σ b g g = 0 := (hD.2.2 hW1).1.1 g hg
  have e : (dsI σ b h g + if h = h then 1 else 0) - (dsI σ b g g + if g = h then 1 else 0) ≤ dsI σ b h g := this
  rw [if_pos rfl, if_neg (Ne.symm hgh), z0] at e
  omega
/-- the first of them -/
def fsN (p : Nat → Bool) : Nat → Nat → Nat
  | 0, i => i
  | d + 1, i => if p i then i else fsN p d (i + 1)
theorem fsN_ok {p : Nat → Bool} : ∀ (d i : Nat), (∃ j, i ≤ j ∧ j < i + d ∧ p j = true) → i ≤ fsN p d i ∧ fsN p d i < i + d ∧ p (fsN p d i) = true
  | 0, i, ⟨j, a, b, _⟩ => by omega
  | d + 1, i, ⟨j, a, b, c⟩ => by
    unfold fsN
    cases hp : p i with
    | true => simp only [if_true]; exact ⟨Nat.le_refl _, by omega, hp⟩
    | false =>
      have hj : j ≠ i := fun z => by rw [z, hp] at c; cases c
      have := fsN_ok (p := p) d (i + 1) ⟨j, by omega, by omega, c⟩
      simp only [Bool.false_eq_true, if_false]
      exact ⟨by omega, by omega, this.2.2⟩
def nxF (σ : Sg) (b : Nat) (W : Nat → Nat) (g h : Nat) : Nat := fsN (nxB σ b W g h) 12 0
/-- how many places are nearer to the goal -/
def rkW (σ : Sg) (b g h : Nat) : Nat := cN (fun j => decide (dsI σ b j g < dsI σ b h g)) 0 12
theorem rkW_le {σ : Sg} {b g h : Nat} (hh : h < 12) : rkW σ b g h ≤ 11 := by
  have := cN_lt (p := fun j => decide (dsI σ b j g < dsI σ b h g)) (q := fun _ => true) 12 0 (fun _ _ _ _ => rfl) ⟨h, Nat.zero_le _, by omega, rfl, decide_eq_false (by omega)⟩
  have e := cN_le (p := fun _ => true) 12 0
  unfold rkW
  omega
theorem way_step {σ : Sg} {b g h : Nat} {W : Nat → Nat} (hW1 : 0 < W 1) (hD : InvD σ b W) (hM : InvM σ b) (hP : W 1 ≤ 12) (hg : g < 12) (hh : h < 12) (hgh : h ≠ g) (hw : dsI σ b h g < 1000000) :
    nxF σ b W g h < W 1 ∧ nxB σ b W g h (nxF σ b W g h) = true ∧ dsI σ b (nxF σ b W g h) g < dsI σ b h g ∧ rkW σ b g (nxF σ b W g h) < rkW σ b g h := by
  obtain ⟨j, hj, hjb⟩ := way_ex hW1 hD hM hP hg hh hgh hw
  obtain ⟨f1, f2, f3⟩ := fsN_ok (p := nxB σ b W g h) 12 0 ⟨j, Nat.zero_le _, by omega, hjb⟩
  have f2' : nxF σ b W g h < 12 := by unfold nxF; omega
  have f3' : nxB σ b W g h (nxF σ b W g h) = true := f3
  have f4 := f3'
  unfold nxB at f4
  simp only [Bool.and_eq_true, decide_eq_true_eq] at f4
  rcases hD.lg hP hh f2' with z | ⟨z1, z2, z3, z4, z5⟩
  · exact absurd z f4.1
  · have lt : dsI σ b (nxF σ b W g h) g < dsI σ b h g := by omega
    refine ⟨z4, f3', lt, ?_⟩
    unfold rkW
    exact cN_lt 12 0 (fun k _ _ hk => by
      simp only [decide_eq_true_eq] at hk ⊢
      omega) ⟨nxF σ b W g h, Nat.zero_le _, by omega, by simp only [decide_eq_true_eq]; exact lt, decide_eq_false (by omega)⟩
def wkR (σ : Sg) (b : Nat) (W : Nat → Nat) (g : Nat) : Nat → Nat → Int32
  | 0, h => nI h
  | n + 1, h => if h = g then -2 else wkR σ b W g n (nxF σ b W g h)

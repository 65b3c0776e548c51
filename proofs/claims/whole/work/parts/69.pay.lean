/-! payments, as numbers -/
def fmn (N : Nat → Int) : Nat → Nat → Nat → Nat
  | 0, _, b => b
  | d + 1, i, b => fmn N d (i + 1) (if N i < N b then i else b)
def fmx (N : Nat → Int) : Nat → Nat → Nat → Nat
  | 0, _, b => b
  | d + 1, i, b => fmx N d (i + 1) (if N b < N i then i else b)
theorem fmn_ok {N : Nat → Int} : ∀ (d i b : Nat), b < i → (∀ k, k < i → N b ≤ N k) → fmn N d i b < i + d ∧ ∀ k, k < i + d → N (fmn N d i b) ≤ N k
  | 0, i, b, hb, h => ⟨hb, h⟩
  | d + 1, i, b, hb, h => by
    unfold fmn
    by_cases c : N i < N b
    · rw [if_pos c]
      have := fmn_ok (N := N) d (i + 1) i (by omega) (fun k hk => by
        rcases Nat.lt_or_ge k i with q | q
        · have := h k q; omega
        · rw [show k = i by omega]; omega)
      rw [show i + (d + 1) = i + 1 + d by omega]
      exact this
    · rw [if_neg c]
      have := fmn_ok (N := N) d (i + 1) b (by omega) (fun k hk => by
        rcases Nat.lt_or_ge k i with q | q
        · exact h k q
        · rw [show k = i by omega]; omega)
      rw [show i + (d + 1) = i + 1 + d by omega]
      exact this
theorem fmx_ok {N : Nat → Int} : ∀ (d i b : Nat), b < i → (∀ k, k < i → N k ≤ N b) → fmx N d i b < i + d ∧ ∀ k, k < i + d → N k ≤ N (fmx N d i b)
  | 0, i, b, hb, h => ⟨hb, h⟩
  | d + 1, i, b, hb, h => by
    unfold fmx
    by_cases c : N b < N i
    · rw [if_pos c]
      have := fmx_ok (N := N) d (i + 1) i (by omega) (fun k hk => by
        rcases Nat.lt_or_ge k i with q | q
        · have := h k q; omega
        · rw [show k = i by omega]; omega)
      rw [show i + (d + 1) = i + 1 + d by omega]
      exact this
    · rw [if_neg c]
      have := fmx_ok (N := N) d (i + 1) b (by omega) (fun k hk => by
        rcases Nat.lt_or_ge k i with q | q
        · exact h k q
        · rw [show k = i by omega]; omega)
      rw [show i + (d + 1) = i + 1 + d by omega]
      exact this
theorem fmn_split {N : Nat → Int} : ∀ (d e i b : Nat), fmn N (d + e) i b = fmn N e (i + d) (fmn N d i b)
  | 0, e, i, b => by rw [Nat.zero_add]; rfl
  | d + 1, e, i, b => by
    rw [show d + 1 + e = d + e + 1 by omega]
    show fmn N (d + e) (i + 1) _ = _
    rw [fmn_split d e (i + 1), show i + 1 + d = i + (d + 1) by omega]
    rfl
theorem fmx_split {N : Nat → Int} : ∀ (d e i b : Nat), fmx N (d + e) i b = fmx N e (i + d) (fmx N d i b)
  | 0, e, i, b => by rw [Nat.zero_add]; rfl
  | d + 1, e, i, b => by
    rw [show d + 1 + e = d + e + 1 by omega]
    show fmx N (d + e) (i + 1) _ = _
    rw [fmx_split d e (i + 1), show i + 1 + d = i + (d + 1) by omega]
    rfl
theorem fmn_rest {N : Nat → Int} : ∀ (d i b : Nat), N b ≤ 0 → (∀ k, i ≤ k → k < i + d → N k = 0) → fmn N d i b = b
  | 0, _, _, _, _ => rfl
  | d + 1, i, b, hb, h => by
    unfold fmn
    rw [if_neg (by rw [h i (Nat.le_refl _) (by omega)]; omega)]
    exact fmn_rest d (i + 1) b hb (fun k h1 h2 => h k (by omega) (by omega))
theorem fmx_rest {N : Nat → Int} : ∀ (d i b : Nat), 0 ≤ N b → (∀ k, i ≤ k → k < i + d → N k = 0) → fmx N d i b = b
  | 0, _, _, _, _ => rfl
  | d + 1, i, b, hb, h => by
    unfold fmx
    rw [if_neg (by rw [h i (Nat.le_refl _) (by omega)]; omega)]
    exact fmx_rest d (i + 1) b hb (fun k h1 h2 => h k (by omega) (by omega))
/-- the nets of six: those behind the carriers told are 0, all together 0 -/
def NtI (C : Nat) (B : Int) (N : Nat → Int) : Prop := C ≤ 6 ∧ (∀ k, C ≤ k → k < 6 → N k = 0) ∧ N 0 + N 1 + N 2 + N 3 + N 4 + N 5 = 0 ∧ ∀ k, k < 6 → -B ≤ N k ∧ N k ≤ B
abbrev pyF (N : Nat → Int) : Nat := fmn N 5 1 0
abbrev pyT (N : Nat → Int) : Nat := fmx N 5 1 0
def pyA (N : Nat → Int) : Int := if -(N (pyF N)) ≤ N (pyT N) then -(N (pyF N)) else N (pyT N)
def pyN (N : Nat → Int) (k : Nat) : Int := N k + (if k = pyF N then pyA N else 0) - (if k = pyT N then pyA N else 0)
def itN (N : Nat → Int) : Nat → Nat → Int
  | 0 => N
  | i + 1 => pyN (itN N i)
theorem k6 {P : Nat → Prop} (h : ∀ k, k < 6 → P k) : P 0 ∧ P 1 ∧ P 2 ∧ P 3 ∧ P 4 ∧ P 5 := ⟨h 0 (by omega), h 1 (by omega), h 2 (by omega), h 3 (by omega), h 4 (by omega), h 5 (by omega)⟩
theorem py_ft {N : Nat → Int} : (pyF N < 6 ∧ ∀ k, k < 6 → N (pyF N) ≤ N k) ∧ (pyT N < 6 ∧ ∀ k, k < 6 → N k ≤ N (pyT N)) :=
  ⟨fmn_ok 5 1 0 (by omega) (fun k hk => by rw [show k = 0 by omega]; exact Int.le_refl _), fmx_ok 5 1 0 (by omega) (fun k hk => by rw [show k = 0 by omega]; exact Int.le_refl _)⟩
theorem py_sg {N : Nat → Int} {C : Nat} {B : Int} (h : NtI C B N) : N (pyF N) ≤ 0 ∧ 0 ≤ N (pyT N) ∧ 0 ≤ pyA N ∧ (pyA N = 0 → ∀ k, k < 6 → N k = 0) := by
  obtain ⟨⟨f1, f2⟩, t1, t2⟩ := py_ft (N := N)
  have a := k6 f2
  have c := k6 t2
  have s := h.2.2.1
  have e1 : N (pyF N) ≤ 0 := by omega
  have e2 : 0 ≤ N (pyT N) := by omega
  refine ⟨e1, e2, by unfold pyA; split <;> omega, fun z k hk => ?_⟩
  have := f2 k hk
  have := t2 k hk
  unfold pyA at z
  split at z
  · have q : N (pyF N) = 0 := by omega
    rw [q] at a
    have : k = 0 ∨ k = 1 ∨ k = 2 ∨ k = 3 ∨ k = 4 ∨ k = 5 := by omega
    rcases this with rfl | rfl | rfl | rfl | rfl | rfl <;> omega
  · have q : N (pyT N) = 0 := by omega
    rw [q] at c
    have : k = 0 ∨ k = 1 ∨ k = 2 ∨ k = 3 ∨ k = 4 ∨ k = 5 := by omega
    rcases this with rfl | rfl | rfl | rfl | rfl | rfl <;> omega
theorem py_same {N : Nat → Int} (h : pyA N = 0) : pyN N = N := by
  funext k
  unfold pyN
  rw [h]
  split <;> split <;> omega
theorem sI6 {f : Nat → Int} : sI f 0 6 = f 0 + f 1 + f 2 + f 3 + f 4 + f 5 := by
  simp only [sI, Nat.zero_add, Nat.reduceAdd]
  omega
theorem py_sum1 {j : Nat} {a : Int} (h : j < 6) : (if 0 = j then a else 0) + (if 1 = j then a else 0) + (if 2 = j then a else 0) + (if 3 = j then a else 0) + (if 4 = j then a else 0) + (if 5 = j then a else 0) = a := by
  have : j = 0 ∨ j = 1 ∨ j = 2 ∨ j = 3 ∨ j = 4 ∨ j = 5 := by omega
  rcases this with rfl | rfl | rfl | rfl | rfl | rfl <;> simp
theorem py_step {N : Nat → Int} {C : Nat} {B : Int} (h : NtI C B N) : NtI C B (pyN N) := by
  by_cases hz : pyA N = 0
  · rw [py_same hz]; exact h
  obtain ⟨g1, g2, g3, -⟩ := py_sg h
  obtain ⟨⟨f1, f2⟩, t1, t2⟩ := py_ft (N := N)
  obtain ⟨h1, h2, h3, h4⟩ := h
  have p1 : pyA N ≤ -(N (pyF N)) ∧ pyA N ≤ N (pyT N) := by unfold pyA; split <;> omega
  refine ⟨h1, fun k a b => ?_, ?_, fun k hk => ?_⟩
  · have nf : k ≠ pyF N := fun z => by have := h2 k a b; rw [z] at this; omega
    have nt : k ≠ pyT N := fun z => by have := h2 k a b; rw [z] at this; omega
    unfold pyN
    rw [if_neg nf, if_neg nt, h2 k a b]
    omega
  · have s1 := py_sum1 (a := pyA N) f1
    have s2 := py_sum1 (a := pyA N) t1
    unfold pyN
    omega
  · have := h4 k hk
    unfold pyN
    by_cases c1 : k = pyF N
    · by_cases c2 : k = pyT N
      · rw [if_pos c1, if_pos c2]; omega
      · have n1 : N k = N (pyF N) := congrArg N c1
        rw [if_pos c1, if_neg c2]
        omega
    · by_cases c2 : k = pyT N
      · have n1 : N k = N (pyT N) := congrArg N c2
        rw [if_neg c1, if_pos c2]
        omega
      · rw [if_neg c1, if_neg c2]; omega
abbrev nzC (N : Nat → Int) : Nat := cN (fun k => decide (N k ≠ 0)) 0 6
theorem py_nz {N : Nat → Int} {C : Nat} {B : Int} (h : NtI C B N) (hp : 0 < pyA N) : nzC (pyN N) < nzC N := by
  obtain ⟨g1, g2, g3, -⟩ := py_sg h
  obtain ⟨⟨f1, f2⟩, t1, t2⟩ := py_ft (N := N)
  have p1 : pyA N ≤ -(N (pyF N)) ∧ pyA N ≤ N (pyT N) ∧ (pyA N = -(N (pyF N)) ∨ pyA N = N (pyT N)) := by unfold pyA; split <;> omega
  have nft : pyF N ≠ pyT N := fun z => by rw [z] at p1; omega
  refine cN_lt 6 0 (fun k _ hk hn => ?_) ?_
  · simp only [ne_eq, decide_eq_true_eq] at hn ⊢
    intro z
    by_cases c1 : k = pyF N
    · rw [c1] at z; omega
    · by_cases c2 : k = pyT N
      · rw [c2] at z; omega
      · apply hn
        unfold pyN
        rw [if_neg c1, if_neg c2, z]
        omega
  · rcases p1.2.2 with q | q
    · refine ⟨pyF N, Nat.zero_le _, by omega, by simp; omega, ?_⟩
      have : pyN N (pyF N) = 0 := by
        unfold pyN
        rw [if_pos rfl, if_neg nft]
        omega
      simp [this]
    · refine ⟨pyT N, Nat.zero_le _, by omega, by simp; omega, ?_⟩
      have : pyN N (pyT N) = 0 := by
        unfold pyN
        rw [if_neg (Ne.symm nft), if_pos rfl]
        omega
      simp [this]
theorem nz_le {N : Nat → Int} {C : Nat} {B : Int} (h : NtI C B N) : nzC N ≤ C := by
  obtain ⟨h1, h2, -⟩ := h
  have sp : ∀ (p : Nat → Bool) (d e s : Nat), cN p s (d + e) = cN p s d + cN p (s + d) e := by
    intro p d
    induction d with
    | zero => intro e s; simp [cN]
    | succ d ih =>
      intro e s
      rw [show d + 1 + e = d + e + 1 by omega, show cN p s (d + e + 1) = (if p s then 1 else 0) + cN p (s + 1) (d + e) from rfl, ih e (s + 1), show cN p s (d + 1) = (if p s then 1 else 0) + cN p (s + 1) d from rfl, show s + 1 + d = s + (d + 1) by omega]
      omega
  have e := sp (fun k => decide (N k ≠ 0)) C (6 - C) 0
  rw [show C + (6 - C) = 6 by omega, Nat.zero_add] at e
  have z : cN (fun k => decide (N k ≠ 0)) C (6 - C) = cN (fun _ => false) C (6 - C) := cN_congr _ _ (fun k a b => by simp [h2 k a (by omega)])
  have z2 : ∀ d i, cN (fun _ => false) i d = 0 := fun d => by
    induction d with
    | zero => intro i; rfl
    | succ d ih => intro i; unfold cN; rw [ih]; rfl
  have := cN_le (p := fun k => decide (N k ≠ 0)) C 0
  unfold nzC
  rw [e, z, z2]
  omega
/-- so many payments -/
def PyR (N : Nat → Int) (K : Nat) : Prop := (∀ j, j < K → 0 < pyA (itN N j)) ∧ pyA (itN N K) = 0
theorem it_ok {N : Nat → Int} {C : Nat} {B : Int} (h : NtI C B N) : ∀ j, NtI C B (itN N j)
  | 0 => h
  | j + 1 => py_step (it_ok h j)
theorem py_ex {N : Nat → Int} {C : Nat} {B : Int} (h : NtI C B N) : ∃ K, K ≤ C ∧ PyR N K := by
  have aux : ∀ (m j : Nat), nzC (itN N j) ≤ m → (∀ i, i < j → 0 < pyA (itN N i)) → ∃ K, K ≤ j + m ∧ PyR N K := by
    intro m
    induction m with
    | zero =>
      intro j hj hp
      refine ⟨j, by omega, hp, ?_⟩
      have hi := it_ok h j
      rcases Int.lt_or_eq_of_le (py_sg hi).2.2.1 with q | q
      · have := py_nz hi q; omega
      · exact q.symm
    | succ m ih =>
      intro j hj hp
      have hi := it_ok h j
      rcases Int.lt_or_eq_of_le (py_sg hi).2.2.1 with q | q
      · have := py_nz hi q
        obtain ⟨K, k1, k2⟩ := ih (j + 1) (by show nzC (pyN (itN N j)) ≤ m; omega) (fun i hi2 => by
          rcases Nat.lt_or_ge i j with z | z
          · exact hp i z
          · rw [show i = j by omega]; exact q)
        exact ⟨K, by omega, k2⟩
      · exact ⟨j, by omega, hp, q.symm⟩
  obtain ⟨K, k1, k2⟩ := aux C 0 (nz_le h) (fun i hi => absurd hi (Nat.not_lt_zero _))
  exact ⟨K, by omega, k2⟩
theorem py_after {N : Nat → Int} {K : Nat} (h : PyR N K) : ∀ j, K ≤ j → itN N j = itN N K
  | 0, hj => by rw [show K = 0 by omega]
  | j + 1, hj => by
    rcases Nat.lt_or_ge j K with q | q
    · rw [show K = j + 1 by omega]
    · have := py_after h j q
      show pyN (itN N j) = _
      rw [this]
      exact py_same h.2
/-- over the carriers told alone -/
theorem py_cut {N : Nat → Int} {C : Nat} {B : Int} (h : NtI C B N) (hC : 1 ≤ C) : fmn N (C - 1) 1 0 = pyF N ∧ fmx N (C - 1) 1 0 = pyT N := by
  obtain ⟨h1, h2, h3, h4⟩ := h
  have a := fmn_ok (N := N) (C - 1) 1 0 (by omega) (fun k hk => by rw [show k = 0 by omega]; exact Int.le_refl _)
  have c := fmx_ok (N := N) (C - 1) 1 0 (by omega) (fun k hk => by rw [show k = 0 by omega]; exact Int.le_refl _)
  rw [show 1 + (C - 1) = C by omega] at a c
  have e1 := fmn_split (N := N) (C - 1) (6 - C) 1 0
  have e2 := fmx_split (N := N) (C - 1) (6 - C) 1 0
  rw [show C - 1 + (6 - C) = 5 by omega, show 1 + (C - 1) = C by omega] at e1 e2
  have l : ∀ k, k < 6 → N (fmn N (C - 1) 1 0) ≤ N k ∨ N k = 0 := fun k hk => by
    rcases Nat.lt_or_ge k C with q | q
    · exact Or.inl (a.2 k q)
    · exact Or.inr (h2 k q hk)
  have m : ∀ k, k < 6 → N k ≤ N (fmx N (C - 1) 1 0) ∨ N k = 0 := fun k hk => by
    rcases Nat.lt_or_ge k C with q | q
    · exact Or.inl (c.2 k q)
    · exact Or.inr (h2 k q hk)
  have l6 := k6 l
  have m6 := k6 m
  have l0 := a.2 0 (by omega)
  have m0 := c.2 0 (by omega)
  constructor
  · rw [pyF, e1, fmn_rest _ _ _ (by omega) (fun k x y => h2 k x (by omega))]
  · rw [pyT, e2, fmx_rest _ _ _ (by omega) (fun k x y => h2 k x (by omega))]

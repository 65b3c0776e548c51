/-! TO PRORATE, as numbers: the coupons fl to n, their kinds, amounts, factors -/
def upB (B : Nat → Bool) (w : Int32) (bv : Nat → Int32) : Nat → Int32 := fun k => if B k then w else bv k
def upW (B : Nat → Bool) (vl wh : Nat → Int) : Nat → Int := fun k => if B k then vl k else wh k
/-- by, what each has already, what is parted to it (times under), under, rounds -/
abbrev RT : Type := (Nat → Int32) × (Nat → Int) × (Nat → Int) × Int × Nat
def ptA (bv : Nat → Int32) (g : Int32) (pool : Int) (fc : Nat → Int) : Nat → Int := fun k => if bv k = g then pool * fc k else 0
def opG (fc : Nat → Int) (bv : Nat → Int32) (g : Int32) (k : Nat) : Int := if bv k = g then fc k else 0
def FG (fc : Nat → Int) (bv : Nat → Int32) (g : Int32) (fl n : Nat) : Int := sI (opG fc bv g) fl (n - fl)
def moF (kd : Nat → Int32) (vl fc : Nat → Int) (fl n : Nat) : Nat → (Nat → Int32) → (Nat → Int) → Int → Nat → RT
  | 0, bv, wh, pool, rn => (bv, wh, ptA bv 0 pool fc, FG fc bv 0 fl n, rn)
  | f + 1, bv, wh, pool, rn =>
    if bS kd vl fc 4 bv pool fl n = 0 then (bv, wh, ptA bv 0 pool fc, FG fc bv 0 fl n, rn)
    else if FG fc (upB (beyB kd vl fc 4 bv pool (FS fc bv fl n)) 4 bv) 0 fl n = 0 then
      (upB (beyB kd vl fc 4 bv pool (FS fc bv fl n)) 4 bv, upW (beyB kd vl fc 4 bv pool (FS fc bv fl n)) vl wh, ptA (upB (beyB kd vl fc 4 bv pool (FS fc bv fl n)) 4 bv) 4 (pool - bS kd vl fc 4 bv pool fl n) fc, FG fc (upB (beyB kd vl fc 4 bv pool (FS fc bv fl n)) 4 bv) 4 fl n, rn + 1)
    else moF kd vl fc fl n f (upB (beyB kd vl fc 4 bv pool (FS fc bv fl n)) 4 bv) (upW (beyB kd vl fc 4 bv pool (FS fc bv fl n)) vl wh) (pool - bS kd vl fc 4 bv pool fl n) (rn + 1)
def lsF (kd : Nat → Int32) (vl fc : Nat → Int) (fl n : Nat) : Nat → (Nat → Int32) → (Nat → Int) → Int → Nat → RT
  | 0, bv, wh, pool, rn => moF kd vl fc fl n 8 bv wh pool rn
  | f + 1, bv, wh, pool, rn =>
    if bS kd vl fc 3 bv pool fl n = 0 then moF kd vl fc fl n 8 bv wh pool rn
    else if pool < bS kd vl fc 3 bv pool fl n then
      (upB (beyB kd vl fc 3 bv pool (FS fc bv fl n)) 3 bv, wh, fun k => if beyB kd vl fc 3 bv pool (FS fc bv fl n) k then pool * vl k else 0, bS kd vl fc 3 bv pool fl n, rn + 1)
    else lsF kd vl fc fl n f (upB (beyB kd vl fc 3 bv pool (FS fc bv fl n)) 3 bv) (upW (beyB kd vl fc 3 bv pool (FS fc bv fl n)) vl wh) (pool - bS kd vl fc 3 bv pool fl n) (rn + 1)
def isF (kd : Nat → Int32) (k : Nat) : Bool := decide (kd k = 1) || decide (kd k = 2)
def by1 (kd : Nat → Int32) (k : Nat) : Int32 := if isF kd k then kd k else 0
def fiS (kd : Nat → Int32) (vl : Nat → Int) (fl n : Nat) : Int := sI (fun k => if isF kd k then vl k else 0) fl (n - fl)
/-! counts -/
def cN (p : Nat → Bool) (i : Nat) : Nat → Nat
  | 0 => 0
  | d + 1 => (if p i then 1 else 0) + cN p (i + 1) d
def prF (kd : Nat → Int32) (vl fc : Nat → Int) (fl n : Nat) (P : Int) : RT :=
  if P < fiS kd vl fl n then (by1 kd, fun _ => 0, fun k => if isF kd k then P * vl k else 0, fiS kd vl fl n, 0)
  else if cN (fun k => !isF kd k) fl (n - fl) = 0 then
    (by1 kd, fun k => if isF kd k then vl k else 0, fun k => if isF kd k then (P - fiS kd vl fl n) * fc k else 0, if fl = n then 1 else sI fc fl (n - fl), 0)
  else lsF kd vl fc fl n 8 (by1 kd) (fun k => if isF kd k then vl k else 0) (P - fiS kd vl fl n) 0
theorem cN_le {p : Nat → Bool} : ∀ (d i : Nat), cN p i d ≤ d
  | 0, _ => Nat.le_refl _
  | d + 1, i => by
    have := cN_le (p := p) d (i + 1)
    unfold cN
    split <;> omega
theorem cN_mono {p q : Nat → Bool} : ∀ (d i : Nat), (∀ k, i ≤ k → k < i + d → p k = true → q k = true) → cN p i d ≤ cN q i d
  | 0, _, _ => Nat.le_refl _
  | d + 1, i, h => by
    have h1 := cN_mono d (i + 1) (fun k a b => h k (by omega) (by omega))
    have h2 := h i (Nat.le_refl _) (by omega)
    unfold cN
    cases hp : p i with
    | false => simp; omega
    | true => rw [h2 hp]; simp; omega
theorem cN_lt {p q : Nat → Bool} : ∀ (d i : Nat), (∀ k, i ≤ k → k < i + d → p k = true → q k = true) → (∃ k, i ≤ k ∧ k < i + d ∧ q k = true ∧ p k = false) → cN p i d < cN q i d
  | 0, _, _, ⟨k, a, b, _⟩ => by omega
  | d + 1, i, h, ⟨k, a, b, c, e⟩ => by
    have h2 := h i (Nat.le_refl _) (by omega)
    unfold cN
    by_cases hk : k = i
    · subst hk
      have h1 := cN_mono d (k + 1) (fun k a b => h k (by omega) (by omega))
      rw [c, e]
      simp
      omega
    · have h1 := cN_lt d (i + 1) (fun k a b => h k (by omega) (by omega)) ⟨k, by omega, by omega, c, e⟩
      cases hp : p i with
      | false => simp; omega
      | true => rw [h2 hp]; simp; omega
theorem cN_congr {p q : Nat → Bool} : ∀ (d i : Nat), (∀ k, i ≤ k → k < i + d → p k = q k) → cN p i d = cN q i d
  | 0, _, _ => rfl
  | d + 1, i, h => by
    unfold cN
    rw [h i (Nat.le_refl _) (by omega), cN_congr d (i + 1) (fun k a b => h k (by omega) (by omega))]
theorem cN_zero {p : Nat → Bool} : ∀ (d i : Nat), cN p i d = 0 → ∀ k, i ≤ k → k < i + d → p k = false
  | 0, _, _, k, a, b => by omega
  | d + 1, i, h, k, a, b => by
    unfold cN at h
    by_cases hk : k = i
    · subst hk
      cases hp : p k with
      | false => rfl
      | true => rw [hp] at h; simp at h
    · exact cN_zero d (i + 1) (by omega) k (by omega) (by omega)
theorem cN_pos {p : Nat → Bool} {d i : Nat} (h : ∃ k, i ≤ k ∧ k < i + d ∧ p k = true) : 0 < cN p i d := by
  obtain ⟨k, a, b, c⟩ := h
  rcases Nat.eq_zero_or_pos (cN p i d) with z | z
  · have := cN_zero d i z k a b
    rw [c] at this
    cases this
  · exact z
theorem cN_last {p : Nat → Bool} : ∀ (d i : Nat), cN p i (d + 1) = cN p i d + (if p (i + d) then 1 else 0)
  | 0, i => by simp [cN]
  | d + 1, i => by
    have := cN_last (p := p) d (i + 1)
    rw [show cN p i (d + 1 + 1) = (if p i then 1 else 0) + cN p (i + 1) (d + 1) from rfl, this, show cN p i (d + 1) = (if p i then 1 else 0) + cN p (i + 1) d from rfl, show i + 1 + d = i + (d + 1) by omega]
    omega
/-! what a round does to the numbers -/
theorem FG_0 {fc : Nat → Int} {bv : Nat → Int32} {fl n : Nat} : FG fc bv 0 fl n = FS fc bv fl n := rfl
theorem FS_congr {fc fc' : Nat → Int} {bv bv' : Nat → Int32} {fl n : Nat} (h1 : ∀ k, fl ≤ k → k < n → fc k = fc' k) (h : ∀ k, fl ≤ k → k < n → bv k = bv' k) : FS fc bv fl n = FS fc' bv' fl n := by
  by_cases hn : fl ≤ n
  · exact sI_congr (n - fl) fl (fun k a b => by unfold opF; rw [h k a (by omega), h1 k a (by omega)])
  · unfold FS
    rw [show n - fl = 0 by omega]
    rfl
theorem beyB_congr {kd kd' : Nat → Int32} {vl vl' fc fc' : Nat → Int} {w : Int32} {bv bv' : Nat → Int32} {pool F : Int} {k : Nat} (h1 : kd k = kd' k) (h2 : vl k = vl' k) (h3 : fc k = fc' k) (h4 : bv k = bv' k) : beyB kd vl fc w bv pool F k = beyB kd' vl' fc' w bv' pool F k := by
  unfold beyB
  rw [h1, h2, h3, h4]
theorem bS_congr {kd kd' : Nat → Int32} {vl vl' fc fc' : Nat → Int} {w : Int32} {bv bv' : Nat → Int32} {pool : Int} {fl n : Nat} (hn : fl ≤ n) (h1 : ∀ k, fl ≤ k → k < n → kd k = kd' k) (h2 : ∀ k, fl ≤ k → k < n → vl k = vl' k) (h3 : ∀ k, fl ≤ k → k < n → fc k = fc' k) (h4 : ∀ k, fl ≤ k → k < n → bv k = bv' k) : bS kd vl fc w bv pool fl n = bS kd' vl' fc' w bv' pool fl n := by
  unfold bS
  rw [FS_congr h3 h4]
  exact sI_congr (n - fl) fl (fun k a b => by rw [beyB_congr (h1 k a (by omega)) (h2 k a (by omega)) (h3 k a (by omega)) (h4 k a (by omega)), h2 k a (by omega)])

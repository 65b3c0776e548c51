/-! prorating as numbers: nothing is lost -/
def PrOK (fl n : Nat) (P0 : Int) (r : RT) : Prop := (∀ k, fl ≤ k → k < n → 0 ≤ r.2.1 k ∧ r.2.1 k ≤ 9999999 ∧ 0 ≤ r.2.2.1 k) ∧ 0 < r.2.2.2.1 ∧ sI r.2.2.1 fl (n - fl) = (P0 - sI r.2.1 fl (n - fl)) * r.2.2.2.1 ∧ 0 ≤ P0 - sI r.2.1 fl (n - fl)
theorem FG_nn {fc : Nat → Int} {bv : Nat → Int32} {g : Int32} {fl n : Nat} (hf : ∀ k, fl ≤ k → k < n → 1 ≤ fc k) : 0 ≤ FG fc bv g fl n := sI_nn _ _ (fun k a b => by have := hf k a (by omega); unfold opG; split <;> omega)
theorem FG_pos {fc : Nat → Int} {bv : Nat → Int32} {g : Int32} {fl n k : Nat} (hf : ∀ k, fl ≤ k → k < n → 1 ≤ fc k) (a : fl ≤ k) (b : k < n) (h : bv k = g) : 0 < FG fc bv g fl n := by
  have := sI_mem (f := opG fc bv g) (n - fl) fl (fun k a b => by have := hf k a (by omega); unfold opG; split <;> omega) k a (by omega)
  have h1 := hf k a b
  rw [opG, if_pos h] at this
  unfold FG
  omega
theorem FG_ex {fc : Nat → Int} {bv : Nat → Int32} {g : Int32} {fl n : Nat} (h : ¬ FG fc bv g fl n = 0) : ∃ k, fl ≤ k ∧ k < n ∧ bv k = g := by
  apply Classical.byContradiction
  intro z
  refine h (sI_zero _ _ (fun k a b => ?_))
  unfold opG
  rw [if_neg (fun c => z ⟨k, a, by omega, c⟩)]
theorem ptA_sum {fc : Nat → Int} {bv : Nat → Int32} {g : Int32} {fl n : Nat} {pool : Int} : sI (ptA bv g pool fc) fl (n - fl) = pool * FG fc bv g fl n := by
  unfold FG
  rw [← sI_mul]
  refine sI_congr _ _ (fun k _ _ => ?_)
  unfold ptA opG
  split <;> simp
/-- where sharing stands, as numbers -/
def NmI (fl n : Nat) (P0 : Int) (bv : Nat → Int32) (wh : Nat → Int) (pool : Int) : Prop := InN n fl bv wh pool P0 ∧ 0 ≤ pool ∧ (∀ k, fl ≤ k → k < n → 0 ≤ wh k ∧ wh k ≤ 9999999)
theorem nm_end {fl n : Nat} {P0 pool : Int} {bv : Nat → Int32} {wh fc : Nat → Int} {g : Int32} {rn : Nat} (h : NmI fl n P0 bv wh pool) (hf : ∀ k, fl ≤ k → k < n → 1 ≤ fc k) (ho : ∃ k, fl ≤ k ∧ k < n ∧ bv k = g) : PrOK fl n P0 (bv, wh, ptA bv g pool fc, FG fc bv g fl n, rn) := by
  obtain ⟨k, a, b, c⟩ := ho
  refine ⟨fun k a b => ⟨(h.2.2 k a b).1, (h.2.2 k a b).2, ?_⟩, FG_pos hf a b c, ?_, ?_⟩
  · show 0 ≤ ptA bv g pool fc k
    unfold ptA
    split
    · exact Int.mul_nonneg h.2.1 (by have := hf k a b; omega)
    · exact Int.le_refl _
  · show sI (ptA bv g pool fc) fl (n - fl) = (P0 - sI wh fl (n - fl)) * FG fc bv g fl n
    rw [ptA_sum, h.1.2]
  · have := h.1.2
    show 0 ≤ P0 - sI wh fl (n - fl)
    have := h.2.1
    omega
theorem nm_up {fl n : Nat} {P0 pool F : Int} {kd : Nat → Int32} {bv : Nat → Int32} {wh vl fc : Nat → Int} {w : Int32} (h : NmI fl n P0 bv wh pool) (hv : ∀ k, fl ≤ k → k < n → 0 ≤ vl k ∧ vl k ≤ 9999999) (hw : w ≠ 0) (hF : F = FS fc bv fl n) (hle : bS kd vl fc w bv pool fl n ≤ pool) :
    NmI fl n P0 (upB (beyB kd vl fc w bv pool F) w bv) (upW (beyB kd vl fc w bv pool F) vl wh) (pool - bS kd vl fc w bv pool fl n) := by
  subst hF
  refine ⟨in_up (B := BB kd vl fc w bv pool fl n) h.1 hw (fun k _ _ hk => (beyB_open hk).1), by omega, fun k a b => ?_⟩
  have h1 := h.2.2 k a b
  have h2 := hv k a b
  unfold upW
  split <;> omega
theorem bS_ex {kd : Nat → Int32} {vl fc : Nat → Int} {w : Int32} {bv : Nat → Int32} {pool : Int} {fl n : Nat} (h : ¬ bS kd vl fc w bv pool fl n = 0) : ∃ k, fl ≤ k ∧ k < n ∧ beyB kd vl fc w bv pool (FS fc bv fl n) k = true := by
  apply Classical.byContradiction
  intro z
  refine h (sI_zero _ _ (fun k a b => ?_))
  cases hk : beyB kd vl fc w bv pool (FS fc bv fl n) k with
  | false => rfl
  | true => exact absurd ⟨k, a, by omega, hk⟩ z
theorem pr_most {kd : Nat → Int32} {vl fc : Nat → Int} {fl n : Nat} {P0 : Int} (hv : ∀ k, fl ≤ k → k < n → 0 ≤ vl k ∧ vl k ≤ 9999999) (hf : ∀ k, fl ≤ k → k < n → 1 ≤ fc k) : ∀ (d : Nat) (bv : Nat → Int32) (wh : Nat → Int) (pool : Int) (rn : Nat), NmI fl n P0 bv wh pool → (∃ k, fl ≤ k ∧ k < n ∧ bv k = 0) → PrOK fl n P0 (moF kd vl fc fl n d bv wh pool rn) := by
  intro d
  induction d with
  | zero => intro bv wh pool rn h ho; exact nm_end h hf ho
  | succ d ih =>
    intro bv wh pool rn h ho
    rw [moF]
    by_cases c1 : bS kd vl fc 4 bv pool fl n = 0
    · rw [if_pos c1]
      exact nm_end h hf ho
    · rw [if_neg c1]
      have hu := nm_up (kd := kd) (fc := fc) h hv (by decide : (4 : Int32) ≠ 0) rfl (bS_most h.2.1 (fun k a b => (hv k a b).1) hf)
      by_cases c2 : FG fc (upB (beyB kd vl fc 4 bv pool (FS fc bv fl n)) 4 bv) 0 fl n = 0
      · rw [if_pos c2]
        obtain ⟨k, a, b, c⟩ := bS_ex c1
        exact nm_end hu hf ⟨k, a, b, by unfold upB; rw [if_pos c]⟩
      · rw [if_neg c2]
        exact ih _ _ _ _ hu (FG_ex c2)
/-- if all that are open are short, all of it is too much -/
theorem ls_open {kd : Nat → Int32} {vl fc : Nat → Int} {fl n : Nat} {pool : Int} {bv : Nat → Int32} (hf : ∀ k, fl ≤ k → k < n → 1 ≤ fc k) (ho : ∃ k, fl ≤ k ∧ k < n ∧ bv k = 0) (hle : bS kd vl fc 3 bv pool fl n ≤ pool) : ∃ k, fl ≤ k ∧ k < n ∧ upB (beyB kd vl fc 3 bv pool (FS fc bv fl n)) 3 bv k = 0 := by
  apply Classical.byContradiction
  intro z
  have hF : 0 < FS fc bv fl n := by
    obtain ⟨k, a, b, c⟩ := ho
    exact FG_pos hf a b c
  have hall : ∀ k, fl ≤ k → k < n → bv k = 0 → beyB kd vl fc 3 bv pool (FS fc bv fl n) k = true := fun k a b c => by
    cases hk : beyB kd vl fc 3 bv pool (FS fc bv fl n) k with
    | true => rfl
    | false => exact absurd ⟨k, a, b, by unfold upB; rw [hk]; exact c⟩ z
  have h1 : FS fc bv fl n * pool + 1 ≤ FS fc bv fl n * bS kd vl fc 3 bv pool fl n := by
    obtain ⟨k0, a0, b0, c0⟩ := ho
    have e1 : FS fc bv fl n * bS kd vl fc 3 bv pool fl n = sI (fun k => FS fc bv fl n * (if beyB kd vl fc 3 bv pool (FS fc bv fl n) k then vl k else 0)) fl (n - fl) := by rw [sI_mul]; rfl
    have e2 : FS fc bv fl n * pool = sI (fun k => pool * opF fc bv k) fl (n - fl) := by rw [sI_mul, Int.mul_comm]; rfl
    have e3 := sI_mem (f := fun k => FS fc bv fl n * (if beyB kd vl fc 3 bv pool (FS fc bv fl n) k then vl k else 0) - pool * opF fc bv k) (n - fl) fl (fun k a b => by
      show 0 ≤ FS fc bv fl n * (if beyB kd vl fc 3 bv pool (FS fc bv fl n) k then vl k else 0) - pool * opF fc bv k
      by_cases c : bv k = 0
      · have hk := hall k a (by omega) c
        rw [if_pos hk]
        unfold beyB at hk
        simp only [Bool.and_eq_true, decide_eq_true_eq, if_true] at hk
        have := hk.2
        rw [opF, if_pos c, Int.mul_comm (FS fc bv fl n)]
        omega
      · have : ¬ beyB kd vl fc 3 bv pool (FS fc bv fl n) k = true := fun hk => c (beyB_open hk).1
        rw [if_neg this, opF, if_neg c]
        simp) k0 a0 (by omega)
    have hk := hall k0 a0 b0 c0
    have e4 : sI (fun k => FS fc bv fl n * (if beyB kd vl fc 3 bv pool (FS fc bv fl n) k then vl k else 0) - pool * opF fc bv k) fl (n - fl) = sI (fun k => FS fc bv fl n * (if beyB kd vl fc 3 bv pool (FS fc bv fl n) k then vl k else 0)) fl (n - fl) - sI (fun k => pool * opF fc bv k) fl (n - fl) := by
      have := sI_add (f := fun k => FS fc bv fl n * (if beyB kd vl fc 3 bv pool (FS fc bv fl n) k then vl k else 0) - pool * opF fc bv k) (g := fun k => pool * opF fc bv k) (n - fl) fl
      have e5 : sI (fun k => FS fc bv fl n * (if beyB kd vl fc 3 bv pool (FS fc bv fl n) k then vl k else 0) - pool * opF fc bv k + pool * opF fc bv k) fl (n - fl) = sI (fun k => FS fc bv fl n * (if beyB kd vl fc 3 bv pool (FS fc bv fl n) k then vl k else 0)) fl (n - fl) := sI_congr _ _ (fun k _ _ => by omega)
      rw [e5] at this
      omega
    have e6 : 1 ≤ FS fc bv fl n * (if beyB kd vl fc 3 bv pool (FS fc bv fl n) k0 then vl k0 else 0) - pool * opF fc bv k0 := by
      rw [if_pos hk]
      unfold beyB at hk
      simp only [Bool.and_eq_true, decide_eq_true_eq, if_true] at hk
      have := hk.2
      rw [opF, if_pos c0, Int.mul_comm (FS fc bv fl n)]
      omega
    rw [e1, e2]
    rw [e4] at e3
    omega
  have h2 : FS fc bv fl n * bS kd vl fc 3 bv pool fl n ≤ FS fc bv fl n * pool := Int.mul_le_mul_of_nonneg_left hle (by omega)
  omega
theorem pr_least {kd : Nat → Int32} {vl fc : Nat → Int} {fl n : Nat} {P0 : Int} (hv : ∀ k, fl ≤ k → k < n → 0 ≤ vl k ∧ vl k ≤ 9999999) (hf : ∀ k, fl ≤ k → k < n → 1 ≤ fc k) : ∀ (d : Nat) (bv : Nat → Int32) (wh : Nat → Int) (pool : Int) (rn : Nat), NmI fl n P0 bv wh pool → (∃ k, fl ≤ k ∧ k < n ∧ bv k = 0) → PrOK fl n P0 (lsF kd vl fc fl n d bv wh pool rn) := by
  intro d
  induction d with
  | zero => intro bv wh pool rn h ho; exact pr_most hv hf _ _ _ _ _ h ho
  | succ d ih =>
    intro bv wh pool rn h ho
    rw [lsF]
    by_cases c1 : bS kd vl fc 3 bv pool fl n = 0
    · rw [if_pos c1]
      exact pr_most hv hf _ _ _ _ _ h ho
    · rw [if_neg c1]
      have hb0 := bS_nn (kd := kd) (fc := fc) (w := 3) (bv := bv) (pool := pool) (fun k a b => (hv k a b).1)
      by_cases c2 : pool < bS kd vl fc 3 bv pool fl n
      · rw [if_pos c2]
        refine ⟨fun k a b => ⟨(h.2.2 k a b).1, (h.2.2 k a b).2, ?_⟩, by show 0 < bS kd vl fc 3 bv pool fl n; omega, ?_, ?_⟩
        · show 0 ≤ (if beyB kd vl fc 3 bv pool (FS fc bv fl n) k then pool * vl k else 0)
          exact ite_nn (Int.mul_nonneg h.2.1 (hv k a b).1)
        · show sI (fun k => if beyB kd vl fc 3 bv pool (FS fc bv fl n) k then pool * vl k else 0) fl (n - fl) = (P0 - sI wh fl (n - fl)) * bS kd vl fc 3 bv pool fl n
          rw [← h.1.2]
          unfold bS
          rw [← sI_mul]
          exact sI_congr _ _ (fun k _ _ => by split <;> simp)
        · have := h.1.2
          have := h.2.1
          show 0 ≤ P0 - sI wh fl (n - fl)
          omega
      · rw [if_neg c2]
        have hle : bS kd vl fc 3 bv pool fl n ≤ pool := by omega
        exact ih _ _ _ _ (nm_up h hv (by decide) rfl hle) (ls_open hf ho hle)
theorem pr_ok {kd : Nat → Int32} {vl fc : Nat → Int} {fl n : Nat} {P0 : Int} (hfn : fl ≤ n) (hP : 0 ≤ P0) (hP0 : fl = n → P0 = 0) (hv : ∀ k, fl ≤ k → k < n → 0 ≤ vl k ∧ vl k ≤ 9999999) (hf : ∀ k, fl ≤ k → k < n → 1 ≤ fc k) : PrOK fl n P0 (prF kd vl fc fl n P0) := by
  have f0 : 0 ≤ fiS kd vl fl n := sI_nn _ _ (fun k a b => ite_nn (hv k a (by omega)).1)
  unfold prF
  by_cases c1 : P0 < fiS kd vl fl n
  · rw [if_pos c1]
    refine ⟨fun k a b => ⟨Int.le_refl _, by show (0 : Int) ≤ 9999999; omega, ite_nn (Int.mul_nonneg hP (hv k a b).1)⟩, by show 0 < fiS kd vl fl n; omega, ?_, ?_⟩
    · show sI (fun k => if isF kd k then P0 * vl k else 0) fl (n - fl) = (P0 - sI (fun _ => 0) fl (n - fl)) * fiS kd vl fl n
      rw [sI_zero (f := fun _ => 0) _ _ (fun _ _ _ => rfl), Int.sub_zero]
      unfold fiS
      rw [← sI_mul]
      exact sI_congr _ _ (fun k _ _ => by split <;> simp)
    · show 0 ≤ P0 - sI (fun _ => 0) fl (n - fl)
      rw [sI_zero (f := fun _ => 0) _ _ (fun _ _ _ => rfl)]
      omega
  · rw [if_neg c1]
    have w0 : ∀ k, fl ≤ k → k < n → 0 ≤ whF kd vl k ∧ whF kd vl k ≤ 9999999 := fun k a b => by
      have := hv k a b
      unfold whF
      split <;> omega
    by_cases c2 : cN (fun k => !isF kd k) fl (n - fl) = 0
    · rw [if_pos c2]
      have hall : ∀ k, fl ≤ k → k < n → isF kd k = true := fun k a b => by
        have := cN_zero _ _ c2 k a (by omega)
        simpa using this
      refine ⟨fun k a b => ⟨(w0 k a b).1, (w0 k a b).2, ?_⟩, ?_, ?_, ?_⟩
      · show 0 ≤ (if isF kd k then (P0 - fiS kd vl fl n) * fc k else 0)
        exact ite_nn (Int.mul_nonneg (by omega) (by have := hf k a b; omega))
      · show 0 < if fl = n then 1 else sI fc fl (n - fl)
        split
        · omega
        · have := sI_mem (n - fl) fl (f := fc) (fun k a b => by have := hf k a (by omega); omega) fl (Nat.le_refl _) (by omega)
          have := hf fl (Nat.le_refl _) (by omega)
          omega
      · show sI (fun k => if isF kd k then (P0 - fiS kd vl fl n) * fc k else 0) fl (n - fl) = (P0 - fiS kd vl fl n) * (if fl = n then 1 else sI fc fl (n - fl))
        by_cases e : fl = n
        · rw [if_pos e]
          have := hP0 e
          unfold fiS
          rw [show n - fl = 0 by omega, this]
          rfl
        · rw [if_neg e, ← sI_mul]
          exact sI_congr _ _ (fun k a b => by rw [hall k a (by omega)]; rfl)
      · show 0 ≤ P0 - fiS kd vl fl n
        omega
    · rw [if_neg c2]
      refine pr_least hv hf _ _ _ _ _ ⟨in_fix, by omega, w0⟩ ?_
      apply Classical.byContradiction
      intro z
      refine c2 ?_
      have : cN (fun k => !isF kd k) fl (n - fl) = cN (fun _ => false) fl (n - fl) := cN_congr _ _ (fun k a b => by
        cases hk : isF kd k with
        | true => rfl
        | false => exact absurd ⟨k, a, by omega, by unfold by1; rw [hk]; rfl⟩ z)
      rw [this]
      exact (gv_zero (r := fun _ => 0)).1
/-- what is left after all got their whole part -/
def lfF (r : RT) (fl n : Nat) (P0 : Int) : Int := P0 - sI (fun k => r.2.1 k + r.2.2.1 k / r.2.2.2.1) fl (n - fl)
theorem lf_bd {r : RT} {fl n : Nat} {P0 : Int} (h : PrOK fl n P0 r) : 0 ≤ lfF r fl n P0 ∧ (lfF r fl n P0 = 0 ∨ lfF r fl n P0 < ((n - fl : Nat) : Int)) ∧ lfF r fl n P0 * r.2.2.2.1 = sI (fun k => r.2.2.1 k % r.2.2.2.1) fl (n - fl) := by
  obtain ⟨h1, h2, h3, h4⟩ := h
  have e1 : lfF r fl n P0 * r.2.2.2.1 = sI (fun k => r.2.2.1 k % r.2.2.2.1) fl (n - fl) := by
    unfold lfF
    rw [sI_add]
    have q : sI r.2.2.1 fl (n - fl) = sI (fun k => r.2.2.1 k / r.2.2.2.1) fl (n - fl) * r.2.2.2.1 + sI (fun k => r.2.2.1 k % r.2.2.2.1) fl (n - fl) := by
      rw [Int.mul_comm, ← sI_mul, ← sI_add]
      exact sI_congr _ _ (fun k _ _ => by
        show _ = r.2.2.2.1 * (r.2.2.1 k / r.2.2.2.1) + r.2.2.1 k % r.2.2.2.1
        have := Int.mul_ediv_add_emod (r.2.2.1 k) r.2.2.2.1
        omega)
    rw [show P0 - (sI (fun k => r.2.1 k) fl (n - fl) + sI (fun k => r.2.2.1 k / r.2.2.2.1) fl (n - fl)) = (P0 - sI r.2.1 fl (n - fl)) - sI (fun k => r.2.2.1 k / r.2.2.2.1) fl (n - fl) by
      show P0 - (sI r.2.1 fl (n - fl) + _) = _
      omega, Int.sub_mul, ← h3, q]
    omega
  have hb := sI_bound (f := fun k => r.2.2.1 k % r.2.2.2.1) (B := r.2.2.2.1 - 1) (by omega) (n - fl) fl (fun k _ _ => ⟨Int.emod_nonneg _ (by omega), by have := Int.emod_lt_of_pos (r.2.2.1 k) h2; omega⟩)
  rw [← e1] at hb
  have h0 : 0 ≤ lfF r fl n P0 := by
    apply Classical.byContradiction
    intro z
    have : lfF r fl n P0 * r.2.2.2.1 < 0 := Int.mul_neg_of_neg_of_pos (by omega) h2
    omega
  refine ⟨h0, ?_, e1⟩
  by_cases hn : n - fl = 0
  · left
    rw [hn] at hb
    have : lfF r fl n P0 * r.2.2.2.1 = 0 := by
      have := hb.2
      simp at this
      omega
    rcases Int.mul_eq_zero.mp this with z | z <;> omega
  · right
    have : lfF r fl n P0 * r.2.2.2.1 < ((n - fl : Nat) : Int) * r.2.2.2.1 := by
      have h5 := hb.2
      rw [Int.sub_mul, Int.mul_comm r.2.2.2.1] at h5
      have : (0 : Int) < ((n - fl : Nat) : Int) := by omega
      omega
    exact Int.lt_of_mul_lt_mul_right this (by omega)

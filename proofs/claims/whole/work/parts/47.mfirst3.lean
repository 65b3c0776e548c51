theorem upW5 {kd : Nat → Int32} {vl fc wh : Nat → Int} {w : Int32} {bv : Nat → Int32} {pool F : Int} {fl : Nat} (h : ∀ k, k < fl → bv k = 5) : ∀ k, k < fl → upW (beyB kd vl fc w bv pool F) vl wh k = wh k := by
  intro k hk
  have : beyB kd vl fc w bv pool F k = false := by unfold beyB; rw [h k hk]; rfl
  unfold upW
  rw [this]
  rfl
def Fl5 (fl : Nat) (wh : Nat → Int) (r : RT) : Prop := ∀ k, k < fl → r.1 k = 5 ∧ r.2.1 k = wh k ∧ r.2.2.1 k = 0
theorem mo_5 {kd : Nat → Int32} {vl fc : Nat → Int} {fl n : Nat} : ∀ (d : Nat) (bv : Nat → Int32) (wh : Nat → Int) (pool : Int) (rn : Nat), (∀ k, k < fl → bv k = 5) → Fl5 fl wh (moF kd vl fc fl n d bv wh pool rn) := by
  intro d
  induction d with
  | zero =>
    intro bv wh pool rn h k hk
    refine ⟨h k hk, rfl, ?_⟩
    show ptA bv 0 pool fc k = 0
    unfold ptA
    rw [h k hk, if_neg (by decide)]
  | succ d ih =>
    intro bv wh pool rn h
    rw [moF]
    split
    · intro k hk
      refine ⟨h k hk, rfl, ?_⟩
      show ptA bv 0 pool fc k = 0
      unfold ptA
      rw [h k hk, if_neg (by decide)]
    · split
      · intro k hk
        refine ⟨up5 h k hk, upW5 h k hk, ?_⟩
        show ptA (upB (beyB kd vl fc 4 bv pool (FS fc bv fl n)) 4 bv) 4 (pool - bS kd vl fc 4 bv pool fl n) fc k = 0
        unfold ptA
        rw [up5 h k hk, if_neg (by decide)]
      · intro k hk
        obtain ⟨p1, p2, p3⟩ := ih (upB (beyB kd vl fc 4 bv pool (FS fc bv fl n)) 4 bv) (upW (beyB kd vl fc 4 bv pool (FS fc bv fl n)) vl wh) (pool - bS kd vl fc 4 bv pool fl n) (rn + 1) (up5 h) k hk
        exact ⟨p1, p2.trans (upW5 h k hk), p3⟩
theorem ls_5 {kd : Nat → Int32} {vl fc : Nat → Int} {fl n : Nat} : ∀ (d : Nat) (bv : Nat → Int32) (wh : Nat → Int) (pool : Int) (rn : Nat), (∀ k, k < fl → bv k = 5) → Fl5 fl wh (lsF kd vl fc fl n d bv wh pool rn) := by
  intro d
  induction d with
  | zero => intro bv wh pool rn h; exact mo_5 8 bv wh pool rn h
  | succ d ih =>
    intro bv wh pool rn h
    rw [lsF]
    split
    · exact mo_5 8 bv wh pool rn h
    · split
      · intro k hk
        refine ⟨up5 h k hk, rfl, ?_⟩
        show (if beyB kd vl fc 3 bv pool (FS fc bv fl n) k then pool * vl k else 0) = 0
        have : beyB kd vl fc 3 bv pool (FS fc bv fl n) k = false := by unfold beyB; rw [h k hk]; rfl
        rw [this]
        rfl
      · intro k hk
        obtain ⟨p1, p2, p3⟩ := ih (upB (beyB kd vl fc 3 bv pool (FS fc bv fl n)) 3 bv) (upW (beyB kd vl fc 3 bv pool (FS fc bv fl n)) vl wh) (pool - bS kd vl fc 3 bv pool fl n) (rn + 1) (up5 h) k hk
        exact ⟨p1, p2.trans (upW5 h k hk), p3⟩
abbrev bv5 (fl : Nat) (k : Nat) : Int32 := if k < fl then 5 else 0
theorem fs5 {kd : Nat → Int32} {fl k : Nat} : fsB kd (bv5 fl) k = (decide (fl ≤ k) && isF kd k) := by
  unfold fsB bv5
  by_cases h : k < fl
  · rw [if_pos h]
    simp
    omega
  · rw [if_neg h]
    simp
    omega
theorem cN_shift {p : Nat → Bool} {fl n : Nat} (hn : fl ≤ n) (h : ∀ k, k < fl → p k = false) : cN p 0 n = cN p fl (n - fl) := by
  have sp : ∀ (d e s : Nat), cN p s (d + e) = cN p s d + cN p (s + d) e := by
    intro d
    induction d with
    | zero => intro e s; simp [cN]
    | succ d ih =>
      intro e s
      rw [show d + 1 + e = d + e + 1 by omega, show cN p s (d + e + 1) = (if p s then 1 else 0) + cN p (s + 1) (d + e) from rfl, ih e (s + 1), show cN p s (d + 1) = (if p s then 1 else 0) + cN p (s + 1) d from rfl, show s + 1 + d = s + (d + 1) by omega]
      omega
  have := sp fl (n - fl) 0
  rw [show fl + (n - fl) = n by omega, Nat.zero_add] at this
  have z : cN (fun _ => false) 0 fl = 0 := (gv_zero (r := fun _ => 0) (fl := 0) (n := fl)).1
  rw [this, cN_congr (q := fun _ => false) fl 0 (fun k _ hk => h k (by omega)), z]
  omega

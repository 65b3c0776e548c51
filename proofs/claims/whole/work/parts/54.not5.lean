theorem upn5 {kd : Nat → Int32} {vl fc : Nat → Int} {w : Int32} {bv : Nat → Int32} {pool F : Int} {k : Nat} (h : bv k ≠ 5) (hw : w ≠ 5) : upB (beyB kd vl fc w bv pool F) w bv k ≠ 5 := by
  unfold upB
  split
  · exact hw
  · exact h
theorem mo_n5 {kd : Nat → Int32} {vl fc : Nat → Int} {fl n k : Nat} : ∀ (d : Nat) (bv : Nat → Int32) (wh : Nat → Int) (pool : Int) (rn : Nat), bv k ≠ 5 → (moF kd vl fc fl n d bv wh pool rn).1 k ≠ 5 := by
  intro d
  induction d with
  | zero => intro bv wh pool rn h; exact h
  | succ d ih =>
    intro bv wh pool rn h
    rw [moF]
    split
    · exact h
    · split
      · exact upn5 h (by decide)
      · exact ih _ _ _ _ (upn5 h (by decide))
theorem ls_n5 {kd : Nat → Int32} {vl fc : Nat → Int} {fl n k : Nat} : ∀ (d : Nat) (bv : Nat → Int32) (wh : Nat → Int) (pool : Int) (rn : Nat), bv k ≠ 5 → (lsF kd vl fc fl n d bv wh pool rn).1 k ≠ 5 := by
  intro d
  induction d with
  | zero => intro bv wh pool rn h; exact mo_n5 8 bv wh pool rn h
  | succ d ih =>
    intro bv wh pool rn h
    rw [lsF]
    split
    · exact mo_n5 8 bv wh pool rn h
    · split
      · exact upn5 h (by decide)
      · exact ih _ _ _ _ (upn5 h (by decide))
theorem by1_n5 {kd : Nat → Int32} {k : Nat} : by1 kd k ≠ 5 := by
  unfold by1 isF
  by_cases h1 : kd k = 1
  · simp [h1]
  · by_cases h2 : kd k = 2
    · simp [h2]
    · simp [h1, h2]
theorem pr_n5 {kd : Nat → Int32} {vl fc : Nat → Int} {fl n k : Nat} {P : Int} : (prF kd vl fc fl n P).1 k ≠ 5 := by
  unfold prF
  split
  · exact by1_n5
  · split
    · exact by1_n5
    · exact ls_n5 8 _ _ _ _ by1_n5

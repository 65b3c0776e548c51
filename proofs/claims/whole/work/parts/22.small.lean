def wof (row : Nat → Nat → Int32) (n : Nat) (x : Int32) : Nat → Int32
  | 0 => 100
  | d + 1 => if row (n - (d + 1)) 0 < x then wof row n x d else row (n - (d + 1)) 1
theorem wof1 {σ : Sg} {b n : Nat} {x : Int32} (hF : Fin0 σ) (hb : isB b) (hn : n ≤ 5) (hc : gI σ b 4 = nI n) : ∀ (d i m : Nat), i + d = n → d < m → DX1_weightOf_2 m b x (nI i) σ = some (wof (aG σ (b + 6)) n x d, σ) := by
  intro d
  induction d with
  | zero =>
    intro i m hi hm
    obtain ⟨m, rfl⟩ : ∃ k, m = k + 1 := ⟨m - 1, by omega⟩
    unfold DX1_weightOf_2 DX1_weightOf_37
    simp (disch := omega) [ckO, chk_true, hF, hb, sh_b, lt_b, finN, hc, le_nI, wof]
    omega
  | succ d ih =>
    intro i m hi hm
    obtain ⟨m, rfl⟩ : ∃ k, m = k + 1 := ⟨m - 1, by omega⟩
    have e : n - (d + 1) = i := by omega
    unfold DX1_weightOf_2 DX1_weightOf_22
    simp (disch := first | assumption | omega) [ckO, ckG, ckR, ckV, chk_true, hF, hb, sh_b, lt_b, finN, hc, le_nI, wof, fr_b_15, sh_b_6, lt_b_6, mul_nI_2, mul_nI_3, mul_nI_4, mul_nI_6, mul_nI_8, mul_nI_10, mul_nI_11, mul_nI_12, mul_nI_27, mul_nI_36, mul_nI_242, add_nI_0, dda_nI_0, add_nI_1, dda_nI_1, add_nI_2, dda_nI_2, add_nI_3, dda_nI_3, add_nI_4, dda_nI_4, add_nI_5, dda_nI_5, add_nI_6, dda_nI_6, add_nI_8, dda_nI_8, add_nI_12, dda_nI_12, add_nI_64, dda_nI_64, add_nI_128, dda_nI_128, add_nI_192, dda_nI_192, add_nI_228, dda_nI_228, add_nI_234, dda_nI_234, add_nI_242, dda_nI_242, sub_nI_1, sub_nI_2, sub_nI_20, sub_nI_242, inb_0, ixl_0, inb_1, ixl_1, inb_2, ixl_2, inb_3, ixl_3, inb_4, ixl_4, inb_5, ixl_5, inb_6, ixl_6, inb_7, ixl_7, inb_8, ixl_8, inb_9, ixl_9, inb_10, ixl_10, inb_11, ixl_11, nI_add, pk_mul, ixn, inbn, e, show i < 5 by omega, ih (i + 1) m (by omega) (by omega), show ¬ n ≤ i by omega]

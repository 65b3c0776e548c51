/-! the model keeps what is told, and takes it back -/
def CpS (σ : Sg) (v F i : Nat) (τ : Sg) : Prop := Fr (fF []) (fA [67]) σ τ ∧ ∀ j, aI τ 67 j = if F ≤ j ∧ j < F + i then aI σ v (j - F) else aI σ 67 j
theorem m_cp0 {σ : Sg} {v F L : Nat} (hF : Fin0 σ) (hs : shp v = (2, L, 0)) (hv : v < 83) (h67 : v ≠ 67) (hFL : F + L ≤ 500) : ∀ (d i m : Nat) (τ : Sg), i + d = L → d < m → CpS σ v F i τ → Ok (DX8_copies_3 m 51 v (nI F) 0 (nI i) τ) (fun r ω => r = nI (F + L) ∧ CpS σ v F L ω) := by
  intro d
  induction d with
  | zero =>
    intro i m τ hi hm h
    obtain ⟨m, rfl⟩ : ∃ k, m = k + 1 := ⟨m - 1, by omega⟩
    have hF1 := h.1.fin hF (by decide)
    have c1 : ckL τ v = true := by unfold ckL; simp [hs, finN hF1, hv]
    have : i = L := by omega
    subst this
    rw [DX8_copies_3, c1, chk_true, hs, if_pos (by show nI i ≤ nI i; rw [nI_leI (by omega) (by omega)]; omega)]
    unfold DX8_copies_49
    rw [c1, chk_true, hs]
    exact ok_some.mpr ⟨nI_add F i, h⟩
  | succ d ih =>
    intro i m τ hi hm h
    obtain ⟨m, rfl⟩ : ∃ k, m = k + 1 := ⟨m - 1, by omega⟩
    have hF1 := h.1.fin hF (by decide)
    have c1 : ckL τ v = true := by unfold ckL; simp [hs, finN hF1, hv]
    have c2 : ckI τ v (nI i) = true := by unfold ckI; simp [hs, finN hF1, hv, inbn (show i < L by omega) (show L < 2147483648 by omega)]
    have c3 : ckI τ 67 (nI (F + i)) = true := by unfold ckI; simp [sh_67, finN hF1, inbn (show F + i < 500 by omega) (show 500 < 2147483648 by omega)]
    rw [DX8_copies_3, c1, chk_true, hs, if_neg (by show ¬ nI L ≤ nI i; rw [nI_leI (by omega) (by omega)]; omega), if_pos rfl, m_ck hF1, chk_true, fr_51_38 hF1, show ckV 67 = true from rfl, chk_true, c2, chk_true, nI_add, c3, chk_true, wlet_eq, ixn (by omega), ixn (by omega)]
    unfold DX8_copies_43
    rw [add_nI_1]
    refine ih (i + 1) m _ (by omega) (by omega) ⟨h.1.wI 67 _ _ (by decide), fun j => ?_⟩
    rw [aI_wI, h.1.aI v (fA_no (by simpa using h67))]
    by_cases q : j = F + i
    · subst q
      rw [if_pos ⟨rfl, rfl⟩, if_pos (by omega), show F + i - F = i by omega]
    · rw [if_neg (fun z => q z.2), h.2 j]
      by_cases c : F ≤ j ∧ j < F + i
      · rw [if_pos c, if_pos (by omega)]
      · rw [if_neg c, if_neg (by omega)]
theorem m_cpS {σ : Sg} {v F L : Nat} (hF : Fin0 σ) (hs : shp v = (2, L, 0)) (hv : v < 83) (h67 : v ≠ 67) (hFL : F + L ≤ 500) : Ok (DX8_copies 51 v (nI F) 0 σ) (fun r ω => r = nI (F + L) ∧ CpS σ v F L ω) := by
  unfold DX8_copies
  exact m_cp0 hF hs hv h67 hFL L 0 FU σ (by omega) (by unfold FU; omega) ⟨Fr.rf, fun j => by rw [if_neg (by omega)]⟩
def CpB (σ : Sg) (v F i : Nat) (τ : Sg) : Prop := Fr (fF []) (fA [v]) σ τ ∧ ∀ j, aI τ v j = if j < i then aI σ 67 (F + j) else aI σ v j
theorem m_cp1 {σ : Sg} {v F L : Nat} (hF : Fin0 σ) (hs : shp v = (2, L, 0)) (hv : v < 83) (h67 : v ≠ 67) (hFL : F + L ≤ 500) : ∀ (d i m : Nat) (τ : Sg), i + d = L → d < m → CpB σ v F i τ → Ok (DX8_copies_3 m 51 v (nI F) 1 (nI i) τ) (fun r ω => r = nI (F + L) ∧ CpB σ v F L ω) := by
  intro d
  induction d with
  | zero =>
    intro i m τ hi hm h
    obtain ⟨m, rfl⟩ : ∃ k, m = k + 1 := ⟨m - 1, by omega⟩
    have hF1 := h.1.fin hF (by decide)
    have c1 : ckL τ v = true := by unfold ckL; simp [hs, finN hF1, hv]
    have : i = L := by omega
    subst this
    rw [DX8_copies_3, c1, chk_true, hs, if_pos (by show nI i ≤ nI i; rw [nI_leI (by omega) (by omega)]; omega)]
    unfold DX8_copies_49
    rw [c1, chk_true, hs]
    exact ok_some.mpr ⟨nI_add F i, h⟩
  | succ d ih =>
    intro i m τ hi hm h
    obtain ⟨m, rfl⟩ : ∃ k, m = k + 1 := ⟨m - 1, by omega⟩
    have hF1 := h.1.fin hF (by decide)
    have c1 : ckL τ v = true := by unfold ckL; simp [hs, finN hF1, hv]
    have c2 : ckI τ v (nI i) = true := by unfold ckI; simp [hs, finN hF1, hv, inbn (show i < L by omega) (show L < 2147483648 by omega)]
    have c3 : ckI τ 67 (nI (F + i)) = true := by unfold ckI; simp [sh_67, finN hF1, inbn (show F + i < 500 by omega) (show 500 < 2147483648 by omega)]
    rw [DX8_copies_3, c1, chk_true, hs, if_neg (by show ¬ nI L ≤ nI i; rw [nI_leI (by omega) (by omega)]; omega), if_neg (by decide), m_ck hF1, chk_true, fr_51_38 hF1, show ckV 67 = true from rfl, chk_true, nI_add, c3, chk_true, c2, chk_true, wlet_eq, ixn (by omega), ixn (by omega)]
    unfold DX8_copies_43
    rw [add_nI_1]
    refine ih (i + 1) m _ (by omega) (by omega) ⟨h.1.wI v _ _ (fA_in (by simp)), fun j => ?_⟩
    rw [aI_wI, h.1.aI 67 (fA_no (by simpa using Ne.symm h67))]
    by_cases q : j = i
    · subst q
      rw [if_pos ⟨rfl, rfl⟩, if_pos (by omega)]
    · rw [if_neg (fun z => q z.2), h.2 j]
      by_cases c : j < i
      · rw [if_pos c, if_pos (by omega)]
      · rw [if_neg c, if_neg (by omega)]
theorem m_cpB {σ : Sg} {v F L : Nat} (hF : Fin0 σ) (hs : shp v = (2, L, 0)) (hv : v < 83) (h67 : v ≠ 67) (hFL : F + L ≤ 500) : Ok (DX8_copies 51 v (nI F) 1 σ) (fun r ω => r = nI (F + L) ∧ CpB σ v F L ω) := by
  unfold DX8_copies
  exact m_cp1 hF hs hv h67 hFL L 0 FU σ (by omega) (by unfold FU; omega) ⟨Fr.rf, fun j => by rw [if_neg (by omega)]⟩
/-- what is kept of a state -/
def KpA (g : Nat → Int32) (μ : Sg) : Prop :=
  (∀ j, j < 72 → g (9 + j) = aI μ 53 j) ∧ (∀ j, j < 10 → g (81 + j) = aI μ 54 j) ∧ (∀ j, j < 96 → g (91 + j) = aI μ 55 j) ∧ (∀ j, j < 64 → g (187 + j) = aI μ 56 j) ∧ (∀ j, j < 32 → g (251 + j) = aI μ 57 j) ∧ (∀ j, j < 64 → g (283 + j) = aI μ 58 j) ∧ (∀ j, j < 64 → g (347 + j) = aI μ 59 j)
def KpN (g : Nat → Int32) (μ : Sg) : Prop := g 0 = gI μ 51 3 ∧ g 1 = gI μ 51 4 ∧ g 2 = gI μ 51 5 ∧ g 3 = gI μ 51 6 ∧ g 4 = gI μ 51 7 ∧ g 5 = gI μ 51 8 ∧ g 6 = gI μ 51 9 ∧ g 7 = gI μ 51 10 ∧ g 8 = gI μ 51 11
theorem m_k97 {σ : Sg} (hF : Fin0 σ) : Ok (DX8_keepsTold_97 51 0 σ) (fun _ ω => Fr (fF []) (fA [67]) σ ω ∧ KpA (aI ω 67) σ ∧ ∀ j, j < 9 → aI ω 67 j = aI σ 68 j) := by
  unfold DX8_keepsTold_97
  have hF0 := hF
  rw [m_ck hF0, chk_true, fr_51_39 hF0, show ckV 68 = true from rfl, chk_true, chk_true, show (0 : Int32) = nI 0 from rfl]
  refine ok_bnd (m_cpS (F := 0) (L := 9) hF0 rfl (by decide) (by decide) (by omega)) (fun r0 τ0 h0 => ?_)
  obtain ⟨e0, f0, t0⟩ := h0
  have hF1 := f0.fin hF0 (by decide)
  rw [m_ck hF1, chk_true, fr_51_12 hF1, show ckV 53 = true from rfl, chk_true, chk_true, e0]
  refine ok_bnd (m_cpS (F := 9) (L := 72) hF1 rfl (by decide) (by decide) (by omega)) (fun r1 τ1 h1 => ?_)
  obtain ⟨e1, f1, t1⟩ := h1
  have hF2 := f1.fin hF1 (by decide)
  rw [m_ck hF2, chk_true, fr_51_13 hF2, show ckV 54 = true from rfl, chk_true, chk_true, e1]
  refine ok_bnd (m_cpS (F := 81) (L := 10) hF2 rfl (by decide) (by decide) (by omega)) (fun r2 τ2 h2 => ?_)
  obtain ⟨e2, f2, t2⟩ := h2
  have hF3 := f2.fin hF2 (by decide)
  rw [m_ck hF3, chk_true, fr_51_14 hF3, show ckV 55 = true from rfl, chk_true, chk_true, e2]
  refine ok_bnd (m_cpS (F := 91) (L := 96) hF3 rfl (by decide) (by decide) (by omega)) (fun r3 τ3 h3 => ?_)
  obtain ⟨e3, f3, t3⟩ := h3
  have hF4 := f3.fin hF3 (by decide)
  rw [m_ck hF4, chk_true, fr_51_15 hF4, show ckV 56 = true from rfl, chk_true, chk_true, e3]
  refine ok_bnd (m_cpS (F := 187) (L := 64) hF4 rfl (by decide) (by decide) (by omega)) (fun r4 τ4 h4 => ?_)
  obtain ⟨e4, f4, t4⟩ := h4
  have hF5 := f4.fin hF4 (by decide)
  rw [m_ck hF5, chk_true, fr_51_16 hF5, show ckV 57 = true from rfl, chk_true, chk_true, e4]
  refine ok_bnd (m_cpS (F := 251) (L := 32) hF5 rfl (by decide) (by decide) (by omega)) (fun r5 τ5 h5 => ?_)
  obtain ⟨e5, f5, t5⟩ := h5
  have hF6 := f5.fin hF5 (by decide)
  rw [m_ck hF6, chk_true, fr_51_17 hF6, show ckV 58 = true from rfl, chk_true, chk_true, e5]
  refine ok_bnd (m_cpS (F := 283) (L := 64) hF6 rfl (by decide) (by decide) (by omega)) (fun r6 τ6 h6 => ?_)
  obtain ⟨e6, f6, t6⟩ := h6
  have hF7 := f6.fin hF6 (by decide)
  rw [m_ck hF7, chk_true, fr_51_18 hF7, show ckV 59 = true from rfl, chk_true, chk_true, e6]
  refine ok_bnd (m_cpS (F := 347) (L := 64) hF7 rfl (by decide) (by decide) (by omega)) (fun r7 τ7 h7 => ?_)
  obtain ⟨e7, f7, t7⟩ := h7
  have hF8 := f7.fin hF7 (by decide)
  rw [if_pos (show nI 0 = nI 0 from rfl)]
  have g0 := f0
  have g1 := g0.trans f1
  have g2 := g1.trans f2
  have g3 := g2.trans f3
  have g4 := g3.trans f4
  have g5 := g4.trans f5
  have g6 := g5.trans f6
  have g7 := g6.trans f7
  refine ok_some.mpr ⟨g7, ⟨fun j hj => ?_, fun j hj => ?_, fun j hj => ?_, fun j hj => ?_, fun j hj => ?_, fun j hj => ?_, fun j hj => ?_⟩, fun j hj => ?_⟩
  · rw [t7, if_neg (by omega), t6, if_neg (by omega), t5, if_neg (by omega), t4, if_neg (by omega), t3, if_neg (by omega), t2, if_neg (by omega), t1, if_pos (by omega), show 9 + j - 9 = j by omega, frx_A g0 (by decide)]
  · rw [t7, if_neg (by omega), t6, if_neg (by omega), t5, if_neg (by omega), t4, if_neg (by omega), t3, if_neg (by omega), t2, if_pos (by omega), show 81 + j - 81 = j by omega, frx_A g1 (by decide)]
  · rw [t7, if_neg (by omega), t6, if_neg (by omega), t5, if_neg (by omega), t4, if_neg (by omega), t3, if_pos (by omega), show 91 + j - 91 = j by omega, frx_A g2 (by decide)]
  · rw [t7, if_neg (by omega), t6, if_neg (by omega), t5, if_neg (by omega), t4, if_pos (by omega), show 187 + j - 187 = j by omega, frx_A g3 (by decide)]
  · rw [t7, if_neg (by omega), t6, if_neg (by omega), t5, if_pos (by omega), show 251 + j - 251 = j by omega, frx_A g4 (by decide)]
  · rw [t7, if_neg (by omega), t6, if_pos (by omega), show 283 + j - 283 = j by omega, frx_A g5 (by decide)]
  · rw [t7, if_pos (by omega), show 347 + j - 347 = j by omega, frx_A g6 (by decide)]
  · rw [t7, if_neg (by omega), t6, if_neg (by omega), t5, if_neg (by omega), t4, if_neg (by omega), t3, if_neg (by omega), t2, if_neg (by omega), t1, if_neg (by omega), t0, if_pos (by omega), Nat.sub_zero]
theorem m_keep {σ : Sg} (hF : Fin0 σ) : Ok (DX8_keepsTold 51 0 σ) (fun _ ω => Fr (fF []) (fA [67, 68]) σ ω ∧ KpA (aI ω 67) σ ∧ KpN (aI ω 67) σ) := by
  have F : Fr (fF []) (fA [68]) σ (wI (wI (wI (wI (wI (wI (wI (wI (wI σ 68 0 (gI σ 51 3)) 68 1 (gI σ 51 4)) 68 2 (gI σ 51 5)) 68 3 (gI σ 51 6)) 68 4 (gI σ 51 7)) 68 5 (gI σ 51 8)) 68 6 (gI σ 51 9)) 68 7 (gI σ 51 10)) 68 8 (gI σ 51 11)) := ((((((((Fr.rf.wI 68 _ _ (by decide)).wI 68 _ _ (by decide)).wI 68 _ _ (by decide)).wI 68 _ _ (by decide)).wI 68 _ _ (by decide)).wI 68 _ _ (by decide)).wI 68 _ _ (by decide)).wI 68 _ _ (by decide)).wI 68 _ _ (by decide)
  have G : ∀ j, aI (wI (wI (wI (wI (wI (wI (wI (wI (wI σ 68 0 (gI σ 51 3)) 68 1 (gI σ 51 4)) 68 2 (gI σ 51 5)) 68 3 (gI σ 51 6)) 68 4 (gI σ 51 7)) 68 5 (gI σ 51 8)) 68 6 (gI σ 51 9)) 68 7 (gI σ 51 10)) 68 8 (gI σ 51 11)) 68 j = if j = 8 then gI σ 51 11 else if j = 7 then gI σ 51 10 else if j = 6 then gI σ 51 9 else if j = 5 then gI σ 51 8 else if j = 4 then gI σ 51 7 else if j = 3 then gI σ 51 6 else if j = 2 then gI σ 51 5 else if j = 1 then gI σ 51 4 else if j = 0 then gI σ 51 3 else aI σ 68 j := by
    intro j
    rw [aI_wI, aI_wI, aI_wI, aI_wI, aI_wI, aI_wI, aI_wI, aI_wI, aI_wI]
    simp only [true_and]
  unfold DX8_keepsTold
  rw [if_pos rfl]
  simp (disch := first | assumption | omega) only [ok_chk, ok_let, ok_some, chk_true, ck01_0, ck01_1, false_and, and_false, ckO, ckI, ckZ, ckJ, ckG, ckR, ckL, ckV, gI_pI, gJ_pI, gR_pI, aI_pI, aJ_pI, aG_pI, gN_pI, gF_pI, gI_pJ, gJ_pJ, gR_pJ, aI_pJ, aJ_pJ, aG_pJ, gN_pJ, gF_pJ, gI_pR, gJ_pR, gR_pR, aI_pR, aJ_pR, aG_pR, gN_pR, gF_pR, gI_wI, gJ_wI, gR_wI, aI_wI, aJ_wI, aG_wI, gN_wI, gF_wI, gI_wJ, gJ_wJ, gR_wJ, aI_wJ, aJ_wJ, aG_wJ, gN_wJ, gF_wJ, gI_wG, gJ_wG, gR_wG, aI_wG, aJ_wG, aG_wG, gN_wG, gF_wG, fr_25_0, fr_26_0, fr_26_1, fr_26_2, fr_26_3, fr_26_4, fr_26_5, fr_26_6, fr_26_7, fr_26_8, fr_36_6, fr_36_7, fr_36_8, fr_36_9, fr_36_10, fr_36_11, fr_36_12, fr_36_13, fr_36_14, fr_46_0, fr_46_1, fr_1_0, fr_1_4, fr_1_5, fr_1_6, fr_1_7, fr_1_8, fr_1_9, fr_51_1, fr_51_12, fr_51_13, fr_51_14, fr_51_15, fr_51_16, fr_51_17, fr_51_18, fr_51_19, fr_51_20, fr_51_21, fr_51_34, fr_51_35, fr_51_36, fr_51_37, fr_51_38, fr_51_39, fr_51_40, fr_51_41, fr_51_42, fr_51_43, fr_51_44, fr_51_45, fr_51_46, fr_51_51, fr_51_52, fr_51_53, fr_51_54, fr_51_55, fr_51_56, fr_b_10, fr_b_11, fr_b_12, fr_b_13, fr_b_14, fr_b_15, fr_b_16, fr_b_17, fr_b_18, fr_b_19, fin_pI, fin_pJ, fin_wI, fin_wJ, fin_wG, sh_b_1, lt_b_1, sh_b_2, lt_b_2, sh_b_3, lt_b_3, sh_b_4, lt_b_4, sh_b_5, lt_b_5, sh_b_6, lt_b_6, sh_b_7, lt_b_7, sh_b_8, lt_b_8, sh_b_9, lt_b_9, sh_b_10, lt_b_10, sh_b, lt_b, nz_b, finN, sh_1, sh_2, sh_25, sh_26, sh_27, sh_28, sh_29, sh_30, sh_31, sh_32, sh_33, sh_34, sh_35, sh_36, sh_37, sh_38, sh_39, sh_40, sh_41, sh_42, sh_43, sh_44, sh_45, sh_46, sh_47, sh_48, sh_49, sh_50, sh_51, sh_52, sh_53, sh_54, sh_55, sh_56, sh_57, sh_58, sh_59, sh_60, sh_61, sh_62, sh_63, sh_64, sh_65, sh_66, sh_67, sh_68, sh_69, sh_70, sh_71, sh_72, sh_73, sh_74, sh_75, sh_76, sh_77, sh_78, sh_79, sh_80, sh_81, sh_82, mul_nI_2, mul_nI_3, mul_nI_4, mul_nI_6, mul_nI_8, mul_nI_10, mul_nI_11, mul_nI_12, mul_nI_27, mul_nI_36, mul_nI_242, add_nI_0, dda_nI_0, add_nI_1, dda_nI_1, add_nI_2, dda_nI_2, add_nI_3, dda_nI_3, add_nI_4, dda_nI_4, add_nI_5, dda_nI_5, add_nI_6, dda_nI_6, add_nI_8, dda_nI_8, add_nI_12, dda_nI_12, add_nI_64, dda_nI_64, add_nI_128, dda_nI_128, add_nI_192, dda_nI_192, add_nI_228, dda_nI_228, add_nI_234, dda_nI_234, add_nI_242, dda_nI_242, sub_nI_1, sub_nI_2, sub_nI_20, sub_nI_242, inb_0, ixl_0, inb_1, ixl_1, inb_2, ixl_2, inb_3, ixl_3, inb_4, ixl_4, inb_5, ixl_5, inb_6, ixl_6, inb_7, ixl_7, inb_8, ixl_8, inb_9, ixl_9, inb_10, ixl_10, inb_11, ixl_11, nI_add, pk_mul, ixn, inbn, le_l0, l0_le, lt_l0, l0_lt, eq_l0, l0_eq, le_l1, l1_le, lt_l1, l1_lt, eq_l1, l1_eq, le_l2, l2_le, lt_l2, l2_lt, eq_l2, l2_eq, le_l3, l3_le, lt_l3, l3_lt, eq_l3, l3_eq, le_l4, l4_le, lt_l4, l4_lt, eq_l4, l4_eq, le_l5, l5_le, lt_l5, l5_lt, eq_l5, l5_eq, le_l6, l6_le, lt_l6, l6_lt, eq_l6, l6_eq, le_l8, l8_le, lt_l8, l8_lt, eq_l8, l8_eq, le_l9, l9_le, lt_l9, l9_lt, eq_l9, l9_eq, le_l10, l10_le, lt_l10, l10_lt, eq_l10, l10_eq, le_l11, l11_le, lt_l11, l11_lt, eq_l11, l11_eq, le_l12, l12_le, lt_l12, l12_lt, eq_l12, l12_eq, le_l14, l14_le, lt_l14, l14_lt, eq_l14, l14_eq, le_l16, l16_le, lt_l16, l16_lt, eq_l16, l16_eq, le_l20, l20_le, lt_l20, l20_lt, eq_l20, l20_eq, le_l24, l24_le, lt_l24, l24_lt, eq_l24, l24_eq, le_l64, l64_le, lt_l64, l64_lt, eq_l64, l64_eq, le_l72, l72_le, lt_l72, l72_lt, eq_l72, l72_eq, le_l242, l242_le, lt_l242, l242_lt, eq_l242, l242_eq, le_l1180, l1180_le, lt_l1180, l1180_lt, eq_l1180, l1180_eq, le_l1200, l1200_le, lt_l1200, l1200_lt, eq_l1200, l1200_eq, le_l3388, l3388_le, lt_l3388, l3388_lt, eq_l3388, l3388_eq, le_l200000, l200000_le, lt_l200000, l200000_lt, eq_l200000, l200000_eq, le_l1000000, l1000000_le, lt_l1000000, l1000000_lt, eq_l1000000, l1000000_eq, le_nI, lt_nI, eq_nI, decide_true, decide_eq_true_eq, Bool.and_true, Bool.true_and, and_true, true_and, if_true, if_false, ite_true, ite_false, decide_false, ne_eq, not_false_eq_true, not_true_eq_false, reduceCtorEq, Nat.reduceLT, Nat.reduceEqDiff, Nat.reduceMul, Nat.reduceAdd]
  have hF1 : Fin0 (wI (wI (wI (wI (wI (wI (wI (wI (wI σ 68 0 (gI σ 51 3)) 68 1 (gI σ 51 4)) 68 2 (gI σ 51 5)) 68 3 (gI σ 51 6)) 68 4 (gI σ 51 7)) 68 5 (gI σ 51 8)) 68 6 (gI σ 51 9)) 68 7 (gI σ 51 10)) 68 8 (gI σ 51 11)) := hF
  generalize wI (wI (wI (wI (wI (wI (wI (wI (wI σ 68 0 (gI σ 51 3)) 68 1 (gI σ 51 4)) 68 2 (gI σ 51 5)) 68 3 (gI σ 51 6)) 68 4 (gI σ 51 7)) 68 5 (gI σ 51 8)) 68 6 (gI σ 51 9)) 68 7 (gI σ 51 10)) 68 8 (gI σ 51 11) = τ at F G hF1 ⊢
  refine (m_k97 hF1).mono (fun _ ω hw => ?_)
  obtain ⟨w1, w2, w3⟩ := hw
  refine ⟨(F.up rfl (by decide)).trans (w1.up rfl (by decide)), ?_, ?_⟩
  · unfold KpA at w2 ⊢
    rw [frx_A F (a := 53) (by decide), frx_A F (a := 54) (by decide), frx_A F (a := 55) (by decide), frx_A F (a := 56) (by decide), frx_A F (a := 57) (by decide), frx_A F (a := 58) (by decide), frx_A F (a := 59) (by decide)] at w2
    exact w2
  · refine ⟨?_, ?_, ?_, ?_, ?_, ?_, ?_, ?_, ?_⟩
    · rw [w3 0 (by omega), G]
      rfl
    · rw [w3 1 (by omega), G]
      rfl
    · rw [w3 2 (by omega), G]
      rfl
    · rw [w3 3 (by omega), G]
      rfl
    · rw [w3 4 (by omega), G]
      rfl
    · rw [w3 5 (by omega), G]
      rfl
    · rw [w3 6 (by omega), G]
      rfl
    · rw [w3 7 (by omega), G]
      rfl
    · rw [w3 8 (by omega), G]
      rfl
theorem m_b97 {σ : Sg} (hF : Fin0 σ) : Ok (DX8_keepsTold 51 1 σ) (fun _ ω => Fr (fF [(51, 3), (51, 4), (51, 5), (51, 6), (51, 7), (51, 8), (51, 9), (51, 10), (51, 11)]) (fA [53, 54, 55, 56, 57, 58, 59, 68]) σ ω ∧ KpA (aI σ 67) ω ∧ KpN (aI σ 67) ω) := by
  unfold DX8_keepsTold DX8_keepsTold_97
  rw [if_neg (by decide)]
  have hF0 := hF
  rw [m_ck hF0, chk_true, fr_51_39 hF0, show ckV 68 = true from rfl, chk_true, chk_true, show (0 : Int32) = nI 0 from rfl]
  refine ok_bnd (m_cpB (F := 0) (L := 9) hF0 rfl (by decide) (by decide) (by omega)) (fun r0 τ0 h0 => ?_)
  obtain ⟨e0, f0, t0⟩ := h0
  have hF1 := f0.fin hF0 (by decide)
  have k0 : aI τ0 67 = aI σ 67 := (frx_A f0 (by decide))
  rw [m_ck hF1, chk_true, fr_51_12 hF1, show ckV 53 = true from rfl, chk_true, chk_true, e0]
  refine ok_bnd (m_cpB (F := 9) (L := 72) hF1 rfl (by decide) (by decide) (by omega)) (fun r1 τ1 h1 => ?_)
  obtain ⟨e1, f1, t1⟩ := h1
  have hF2 := f1.fin hF1 (by decide)
  have k1 : aI τ1 67 = aI σ 67 := (frx_A f1 (by decide)).trans k0
  rw [m_ck hF2, chk_true, fr_51_13 hF2, show ckV 54 = true from rfl, chk_true, chk_true, e1]
  refine ok_bnd (m_cpB (F := 81) (L := 10) hF2 rfl (by decide) (by decide) (by omega)) (fun r2 τ2 h2 => ?_)
  obtain ⟨e2, f2, t2⟩ := h2
  have hF3 := f2.fin hF2 (by decide)
  have k2 : aI τ2 67 = aI σ 67 := (frx_A f2 (by decide)).trans k1
  rw [m_ck hF3, chk_true, fr_51_14 hF3, show ckV 55 = true from rfl, chk_true, chk_true, e2]
  refine ok_bnd (m_cpB (F := 91) (L := 96) hF3 rfl (by decide) (by decide) (by omega)) (fun r3 τ3 h3 => ?_)
  obtain ⟨e3, f3, t3⟩ := h3
  have hF4 := f3.fin hF3 (by decide)
  have k3 : aI τ3 67 = aI σ 67 := (frx_A f3 (by decide)).trans k2
  rw [m_ck hF4, chk_true, fr_51_15 hF4, show ckV 56 = true from rfl, chk_true, chk_true, e3]
  refine ok_bnd (m_cpB (F := 187) (L := 64) hF4 rfl (by decide) (by decide) (by omega)) (fun r4 τ4 h4 => ?_)
  obtain ⟨e4, f4, t4⟩ := h4
  have hF5 := f4.fin hF4 (by decide)
  have k4 : aI τ4 67 = aI σ 67 := (frx_A f4 (by decide)).trans k3
  rw [m_ck hF5, chk_true, fr_51_16 hF5, show ckV 57 = true from rfl, chk_true, chk_true, e4]
  refine ok_bnd (m_cpB (F := 251) (L := 32) hF5 rfl (by decide) (by decide) (by omega)) (fun r5 τ5 h5 => ?_)
  obtain ⟨e5, f5, t5⟩ := h5
  have hF6 := f5.fin hF5 (by decide)
  have k5 : aI τ5 67 = aI σ 67 := (frx_A f5 (by decide)).trans k4
  rw [m_ck hF6, chk_true, fr_51_17 hF6, show ckV 58 = true from rfl, chk_true, chk_true, e5]
  refine ok_bnd (m_cpB (F := 283) (L := 64) hF6 rfl (by decide) (by decide) (by omega)) (fun r6 τ6 h6 => ?_)
  obtain ⟨e6, f6, t6⟩ := h6
  have hF7 := f6.fin hF6 (by decide)
  have k6 : aI τ6 67 = aI σ 67 := (frx_A f6 (by decide)).trans k5
  rw [m_ck hF7, chk_true, fr_51_18 hF7, show ckV 59 = true from rfl, chk_true, chk_true, e6]
  refine ok_bnd (m_cpB (F := 347) (L := 64) hF7 rfl (by decide) (by decide) (by omega)) (fun r7 τ7 h7 => ?_)
  obtain ⟨e7, f7, t7⟩ := h7
  have hF8 := f7.fin hF7 (by decide)
  have k7 : aI τ7 67 = aI σ 67 := (frx_A f7 (by decide)).trans k6
  rw [if_neg (show ¬ (1 : Int32) = nI 0 by decide)]
  have g0 : Fr (fF []) (fA [53, 54, 55, 56, 57, 58, 59, 68]) σ τ0 := f0.up rfl (by decide)
  have g1 := g0.trans (f1.up (l2 := []) (m2 := [53, 54, 55, 56, 57, 58, 59, 68]) rfl (by decide))
  have g2 := g1.trans (f2.up (l2 := []) (m2 := [53, 54, 55, 56, 57, 58, 59, 68]) rfl (by decide))
  have g3 := g2.trans (f3.up (l2 := []) (m2 := [53, 54, 55, 56, 57, 58, 59, 68]) rfl (by decide))
  have g4 := g3.trans (f4.up (l2 := []) (m2 := [53, 54, 55, 56, 57, 58, 59, 68]) rfl (by decide))
  have g5 := g4.trans (f5.up (l2 := []) (m2 := [53, 54, 55, 56, 57, 58, 59, 68]) rfl (by decide))
  have g6 := g5.trans (f6.up (l2 := []) (m2 := [53, 54, 55, 56, 57, 58, 59, 68]) rfl (by decide))
  have g7 := g6.trans (f7.up (l2 := []) (m2 := [53, 54, 55, 56, 57, 58, 59, 68]) rfl (by decide))
  have z68 : ∀ j, j < 9 → aI τ7 68 j = aI σ 67 j := fun j hj => by
    rw [f7.aI 68 rfl j, f6.aI 68 rfl j, f5.aI 68 rfl j, f4.aI 68 rfl j, f3.aI 68 rfl j, f2.aI 68 rfl j, f1.aI 68 rfl j, t0, if_pos hj, Nat.zero_add]
  have y0 := z68 0 (by omega)
  have y1 := z68 1 (by omega)
  have y2 := z68 2 (by omega)
  have y3 := z68 3 (by omega)
  have y4 := z68 4 (by omega)
  have y5 := z68 5 (by omega)
  have y6 := z68 6 (by omega)
  have y7 := z68 7 (by omega)
  have y8 := z68 8 (by omega)
  rw [show nI 0 = (0 : Int32) from rfl]
  simp (disch := first | assumption | omega) only [ok_chk, ok_let, ok_some, chk_true, ck01_0, ck01_1, false_and, and_false, ckO, ckI, ckZ, ckJ, ckG, ckR, ckL, ckV, gI_pI, gJ_pI, gR_pI, aI_pI, aJ_pI, aG_pI, gN_pI, gF_pI, gI_pJ, gJ_pJ, gR_pJ, aI_pJ, aJ_pJ, aG_pJ, gN_pJ, gF_pJ, gI_pR, gJ_pR, gR_pR, aI_pR, aJ_pR, aG_pR, gN_pR, gF_pR, gI_wI, gJ_wI, gR_wI, aI_wI, aJ_wI, aG_wI, gN_wI, gF_wI, gI_wJ, gJ_wJ, gR_wJ, aI_wJ, aJ_wJ, aG_wJ, gN_wJ, gF_wJ, gI_wG, gJ_wG, gR_wG, aI_wG, aJ_wG, aG_wG, gN_wG, gF_wG, fr_25_0, fr_26_0, fr_26_1, fr_26_2, fr_26_3, fr_26_4, fr_26_5, fr_26_6, fr_26_7, fr_26_8, fr_36_6, fr_36_7, fr_36_8, fr_36_9, fr_36_10, fr_36_11, fr_36_12, fr_36_13, fr_36_14, fr_46_0, fr_46_1, fr_1_0, fr_1_4, fr_1_5, fr_1_6, fr_1_7, fr_1_8, fr_1_9, fr_51_1, fr_51_12, fr_51_13, fr_51_14, fr_51_15, fr_51_16, fr_51_17, fr_51_18, fr_51_19, fr_51_20, fr_51_21, fr_51_34, fr_51_35, fr_51_36, fr_51_37, fr_51_38, fr_51_39, fr_51_40, fr_51_41, fr_51_42, fr_51_43, fr_51_44, fr_51_45, fr_51_46, fr_51_51, fr_51_52, fr_51_53, fr_51_54, fr_51_55, fr_51_56, fr_b_10, fr_b_11, fr_b_12, fr_b_13, fr_b_14, fr_b_15, fr_b_16, fr_b_17, fr_b_18, fr_b_19, fin_pI, fin_pJ, fin_wI, fin_wJ, fin_wG, sh_b_1, lt_b_1, sh_b_2, lt_b_2, sh_b_3, lt_b_3, sh_b_4, lt_b_4, sh_b_5, lt_b_5, sh_b_6, lt_b_6, sh_b_7, lt_b_7, sh_b_8, lt_b_8, sh_b_9, lt_b_9, sh_b_10, lt_b_10, sh_b, lt_b, nz_b, finN, sh_1, sh_2, sh_25, sh_26, sh_27, sh_28, sh_29, sh_30, sh_31, sh_32, sh_33, sh_34, sh_35, sh_36, sh_37, sh_38, sh_39, sh_40, sh_41, sh_42, sh_43, sh_44, sh_45, sh_46, sh_47, sh_48, sh_49, sh_50, sh_51, sh_52, sh_53, sh_54, sh_55, sh_56, sh_57, sh_58, sh_59, sh_60, sh_61, sh_62, sh_63, sh_64, sh_65, sh_66, sh_67, sh_68, sh_69, sh_70, sh_71, sh_72, sh_73, sh_74, sh_75, sh_76, sh_77, sh_78, sh_79, sh_80, sh_81, sh_82, mul_nI_2, mul_nI_3, mul_nI_4, mul_nI_6, mul_nI_8, mul_nI_10, mul_nI_11, mul_nI_12, mul_nI_27, mul_nI_36, mul_nI_242, add_nI_0, dda_nI_0, add_nI_1, dda_nI_1, add_nI_2, dda_nI_2, add_nI_3, dda_nI_3, add_nI_4, dda_nI_4, add_nI_5, dda_nI_5, add_nI_6, dda_nI_6, add_nI_8, dda_nI_8, add_nI_12, dda_nI_12, add_nI_64, dda_nI_64, add_nI_128, dda_nI_128, add_nI_192, dda_nI_192, add_nI_228, dda_nI_228, add_nI_234, dda_nI_234, add_nI_242, dda_nI_242, sub_nI_1, sub_nI_2, sub_nI_20, sub_nI_242, inb_0, ixl_0, inb_1, ixl_1, inb_2, ixl_2, inb_3, ixl_3, inb_4, ixl_4, inb_5, ixl_5, inb_6, ixl_6, inb_7, ixl_7, inb_8, ixl_8, inb_9, ixl_9, inb_10, ixl_10, inb_11, ixl_11, nI_add, pk_mul, ixn, inbn, le_l0, l0_le, lt_l0, l0_lt, eq_l0, l0_eq, le_l1, l1_le, lt_l1, l1_lt, eq_l1, l1_eq, le_l2, l2_le, lt_l2, l2_lt, eq_l2, l2_eq, le_l3, l3_le, lt_l3, l3_lt, eq_l3, l3_eq, le_l4, l4_le, lt_l4, l4_lt, eq_l4, l4_eq, le_l5, l5_le, lt_l5, l5_lt, eq_l5, l5_eq, le_l6, l6_le, lt_l6, l6_lt, eq_l6, l6_eq, le_l8, l8_le, lt_l8, l8_lt, eq_l8, l8_eq, le_l9, l9_le, lt_l9, l9_lt, eq_l9, l9_eq, le_l10, l10_le, lt_l10, l10_lt, eq_l10, l10_eq, le_l11, l11_le, lt_l11, l11_lt, eq_l11, l11_eq, le_l12, l12_le, lt_l12, l12_lt, eq_l12, l12_eq, le_l14, l14_le, lt_l14, l14_lt, eq_l14, l14_eq, le_l16, l16_le, lt_l16, l16_lt, eq_l16, l16_eq, le_l20, l20_le, lt_l20, l20_lt, eq_l20, l20_eq, le_l24, l24_le, lt_l24, l24_lt, eq_l24, l24_eq, le_l64, l64_le, lt_l64, l64_lt, eq_l64, l64_eq, le_l72, l72_le, lt_l72, l72_lt, eq_l72, l72_eq, le_l242, l242_le, lt_l242, l242_lt, eq_l242, l242_eq, le_l1180, l1180_le, lt_l1180, l1180_lt, eq_l1180, l1180_eq, le_l1200, l1200_le, lt_l1200, l1200_lt, eq_l1200, l1200_eq, le_l3388, l3388_le, lt_l3388, l3388_lt, eq_l3388, l3388_eq, le_l200000, l200000_le, lt_l200000, l200000_lt, eq_l200000, l200000_eq, le_l1000000, l1000000_le, lt_l1000000, l1000000_lt, eq_l1000000, l1000000_eq, le_nI, lt_nI, eq_nI, decide_true, decide_eq_true_eq, Bool.and_true, Bool.true_and, and_true, true_and, if_true, if_false, ite_true, ite_false, decide_false, ne_eq, not_false_eq_true, not_true_eq_false, reduceCtorEq, Nat.reduceLT, Nat.reduceEqDiff, Nat.reduceMul, Nat.reduceAdd, y0, y1, y2, y3, y4, y5, y6, y7, y8]
  have F : Fr (fF [(51, 3), (51, 4), (51, 5), (51, 6), (51, 7), (51, 8), (51, 9), (51, 10), (51, 11)]) (fA []) τ7 (pI (pI (pI (pI (pI (pI (pI (pI (pI τ7 51 3 (aI σ 67 0)) 51 4 (aI σ 67 1)) 51 5 (aI σ 67 2)) 51 6 (aI σ 67 3)) 51 7 (aI σ 67 4)) 51 8 (aI σ 67 5)) 51 9 (aI σ 67 6)) 51 10 (aI σ 67 7)) 51 11 (aI σ 67 8)) := ((((((((Fr.rf.pI 51 3 _ (by decide)).pI 51 4 _ (by decide)).pI 51 5 _ (by decide)).pI 51 6 _ (by decide)).pI 51 7 _ (by decide)).pI 51 8 _ (by decide)).pI 51 9 _ (by decide)).pI 51 10 _ (by decide)).pI 51 11 _ (by decide)
  have N : KpN (aI σ 67) (pI (pI (pI (pI (pI (pI (pI (pI (pI τ7 51 3 (aI σ 67 0)) 51 4 (aI σ 67 1)) 51 5 (aI σ 67 2)) 51 6 (aI σ 67 3)) 51 7 (aI σ 67 4)) 51 8 (aI σ 67 5)) 51 9 (aI σ 67 6)) 51 10 (aI σ 67 7)) 51 11 (aI σ 67 8)) := by
    unfold KpN
    simp [gI_pI]
  generalize pI (pI (pI (pI (pI (pI (pI (pI (pI τ7 51 3 (aI σ 67 0)) 51 4 (aI σ 67 1)) 51 5 (aI σ 67 2)) 51 6 (aI σ 67 3)) 51 7 (aI σ 67 4)) 51 8 (aI σ 67 5)) 51 9 (aI σ 67 6)) 51 10 (aI σ 67 7)) 51 11 (aI σ 67 8) = ω at F N ⊢
  refine ⟨(g7.up rfl rfl).trans (F.up rfl rfl), ⟨fun j hj => ?_, fun j hj => ?_, fun j hj => ?_, fun j hj => ?_, fun j hj => ?_, fun j hj => ?_, fun j hj => ?_⟩, N⟩
  · rw [F.aI 53 rfl, f7.aI 53 rfl, f6.aI 53 rfl, f5.aI 53 rfl, f4.aI 53 rfl, f3.aI 53 rfl, f2.aI 53 rfl, t1, if_pos hj, k0]
  · rw [F.aI 54 rfl, f7.aI 54 rfl, f6.aI 54 rfl, f5.aI 54 rfl, f4.aI 54 rfl, f3.aI 54 rfl, t2, if_pos hj, k1]
  · rw [F.aI 55 rfl, f7.aI 55 rfl, f6.aI 55 rfl, f5.aI 55 rfl, f4.aI 55 rfl, t3, if_pos hj, k2]
  · rw [F.aI 56 rfl, f7.aI 56 rfl, f6.aI 56 rfl, f5.aI 56 rfl, t4, if_pos hj, k3]
  · rw [F.aI 57 rfl, f7.aI 57 rfl, f6.aI 57 rfl, t5, if_pos hj, k4]
  · rw [F.aI 58 rfl, f7.aI 58 rfl, t6, if_pos hj, k5]
  · rw [F.aI 59 rfl, t7, if_pos hj, k6]

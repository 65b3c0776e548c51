/-! a text, run by both -/
theorem m_pre {ρ : Sg} {T : Nat → Int32} {n p0 : Nat} (hF : Fin0 ρ) (h2 : gI ρ 51 2 = nI p0) (hp0 : p0 ≤ 1200) (hn : n ≤ p0) (hT : ∀ i, i < n → aI ρ 52 i = T i) (hT1 : ∀ i, i < n → T i ≠ -1) :
    ∃ μ0, DX8_text 51 (nI n) ρ = DX8_text_95 FU 51 μ0 ∧ Fr (fF (LM ++ [(51, 0), (51, 23)])) (fA [67, 68]) ρ μ0 ∧ MS T n μ0 (nxP T n 0) (nxA T n (nxP T n 0)) ∧ gI μ0 51 29 = 0 ∧ (∀ j, j ∈ jL → gI μ0 51 (mfd j) = nI (W00 j)) ∧ gI μ0 51 33 = 0 ∧ KpA (aI μ0 67) ρ ∧ KpN (aI μ0 67) ρ := by
  have F1 : Fr (fF [(51, 0)]) (fA []) ρ (pI ρ 51 0 0) := Fr.rf.pI 51 0 _ (by decide)
  have hF1 := F1.fin hF (by decide)
  have a2 : gI (pI ρ 51 0 0) 51 2 = nI p0 := (F1.I 51 2 rfl).trans h2
  have K1 : ∀ g, KpA g (pI ρ 51 0 0) → KpA g ρ := fun g h => h
  have K2 : ∀ g, KpN g (pI ρ 51 0 0) → KpN g ρ := fun g h => h
  unfold DX8_text
  rw [m_ck hF, chk_true, wlet_eq, if_neg (by rw [show (0 : Int32) = nI 0 from rfl, nI_ltI (by omega) (by omega)]; omega)]
  generalize pI ρ 51 0 0 = σ1 at F1 hF1 a2 K1 K2 ⊢
  rw [m_ck hF1, chk_true, a2, if_pos (by rw [nI_leI (by omega) (by omega)]; omega), chk_true]
  obtain ⟨_, σ2, e, f, ka, kn⟩ := m_keep hF1
  have hF2 := f.fin hF1 (by decide)
  rw [e, bnd_some]
  have F3 : Fr (fF LM) (fA []) σ2 (pI (pI (pI (pI (pI (pI (pI (pI (pI (pI σ2 51 3 0) 51 4 0) 51 5 0) 51 6 0) 51 7 0) 51 8 0) 51 9 0) 51 11 0) 51 10 10) 51 33 0) := (((((((((Fr.rf.pI 51 3 _ (by decide)).pI 51 4 _ (by decide)).pI 51 5 _ (by decide)).pI 51 6 _ (by decide)).pI 51 7 _ (by decide)).pI 51 8 _ (by decide)).pI 51 9 _ (by decide)).pI 51 11 _ (by decide)).pI 51 10 _ (by decide)).pI 51 33 _ (by decide)
  have hF3 := F3.fin hF2 (by decide)
  have g3 : ∀ j, j ∈ jL → gI (pI (pI (pI (pI (pI (pI (pI (pI (pI (pI σ2 51 3 0) 51 4 0) 51 5 0) 51 6 0) 51 7 0) 51 8 0) 51 9 0) 51 11 0) 51 10 10) 51 33 0) 51 (mfd j) = nI (W00 j) := by
    intro j hj
    simp only [List.mem_cons, List.not_mem_nil, or_false] at hj
    rcases hj with rfl | rfl | rfl | rfl | rfl | rfl | rfl | rfl | rfl <;> rfl
  have g33 : gI (pI (pI (pI (pI (pI (pI (pI (pI (pI (pI σ2 51 3 0) 51 4 0) 51 5 0) 51 6 0) 51 7 0) 51 8 0) 51 9 0) 51 11 0) 51 10 10) 51 33 0) 51 33 = 0 := rfl
  simp (disch := first | assumption | omega) only [wlet_eq, chk_true, bnd_some, bnd_bnd, ck01_0, ck01_1, false_and, and_false, ckO, ckI, ckZ, ckJ, ckG, ckR, ckL, ckV, gI_pI, gJ_pI, gR_pI, aI_pI, aJ_pI, aG_pI, gN_pI, gF_pI, gI_pJ, gJ_pJ, gR_pJ, aI_pJ, aJ_pJ, aG_pJ, gN_pJ, gF_pJ, gI_pR, gJ_pR, gR_pR, aI_pR, aJ_pR, aG_pR, gN_pR, gF_pR, gI_wI, gJ_wI, gR_wI, aI_wI, aJ_wI, aG_wI, gN_wI, gF_wI, gI_wJ, gJ_wJ, gR_wJ, aI_wJ, aJ_wJ, aG_wJ, gN_wJ, gF_wJ, gI_wG, gJ_wG, gR_wG, aI_wG, aJ_wG, aG_wG, gN_wG, gF_wG, fr_25_0, fr_26_0, fr_26_1, fr_26_2, fr_26_3, fr_26_4, fr_26_5, fr_26_6, fr_26_7, fr_26_8, fr_36_6, fr_36_7, fr_36_8, fr_36_9, fr_36_10, fr_36_11, fr_36_12, fr_36_13, fr_36_14, fr_46_0, fr_46_1, fr_1_0, fr_1_4, fr_1_5, fr_1_6, fr_1_7, fr_1_8, fr_1_9, fr_51_1, fr_51_12, fr_51_13, fr_51_14, fr_51_15, fr_51_16, fr_51_17, fr_51_18, fr_51_19, fr_51_20, fr_51_21, fr_51_34, fr_51_35, fr_51_36, fr_51_37, fr_51_38, fr_51_39, fr_51_40, fr_51_41, fr_51_42, fr_51_43, fr_51_44, fr_51_45, fr_51_46, fr_51_51, fr_51_52, fr_51_53, fr_51_54, fr_51_55, fr_51_56, fr_b_10, fr_b_11, fr_b_12, fr_b_13, fr_b_14, fr_b_15, fr_b_16, fr_b_17, fr_b_18, fr_b_19, fin_pI, fin_pJ, fin_wI, fin_wJ, fin_wG, sh_b_1, lt_b_1, sh_b_2, lt_b_2, sh_b_3, lt_b_3, sh_b_4, lt_b_4, sh_b_5, lt_b_5, sh_b_6, lt_b_6, sh_b_7, lt_b_7, sh_b_8, lt_b_8, sh_b_9, lt_b_9, sh_b_10, lt_b_10, sh_b, lt_b, nz_b, finN, sh_1, sh_2, sh_25, sh_26, sh_27, sh_28, sh_29, sh_30, sh_31, sh_32, sh_33, sh_34, sh_35, sh_36, sh_37, sh_38, sh_39, sh_40, sh_41, sh_42, sh_43, sh_44, sh_45, sh_46, sh_47, sh_48, sh_49, sh_50, sh_51, sh_52, sh_53, sh_54, sh_55, sh_56, sh_57, sh_58, sh_59, sh_60, sh_61, sh_62, sh_63, sh_64, sh_65, sh_66, sh_67, sh_68, sh_69, sh_70, sh_71, sh_72, sh_73, sh_74, sh_75, sh_76, sh_77, sh_78, sh_79, sh_80, sh_81, sh_82, mul_nI_2, mul_nI_3, mul_nI_4, mul_nI_6, mul_nI_8, mul_nI_10, mul_nI_11, mul_nI_12, mul_nI_27, mul_nI_36, mul_nI_242, add_nI_0, dda_nI_0, add_nI_1, dda_nI_1, add_nI_2, dda_nI_2, add_nI_3, dda_nI_3, add_nI_4, dda_nI_4, add_nI_5, dda_nI_5, add_nI_6, dda_nI_6, add_nI_8, dda_nI_8, add_nI_12, dda_nI_12, add_nI_64, dda_nI_64, add_nI_128, dda_nI_128, add_nI_192, dda_nI_192, add_nI_228, dda_nI_228, add_nI_234, dda_nI_234, add_nI_242, dda_nI_242, sub_nI_1, sub_nI_2, sub_nI_20, sub_nI_242, inb_0, ixl_0, inb_1, ixl_1, inb_2, ixl_2, inb_3, ixl_3, inb_4, ixl_4, inb_5, ixl_5, inb_6, ixl_6, inb_7, ixl_7, inb_8, ixl_8, inb_9, ixl_9, inb_10, ixl_10, inb_11, ixl_11, nI_add, pk_mul, ixn, inbn, le_l0, l0_le, lt_l0, l0_lt, eq_l0, l0_eq, le_l1, l1_le, lt_l1, l1_lt, eq_l1, l1_eq, le_l2, l2_le, lt_l2, l2_lt, eq_l2, l2_eq, le_l3, l3_le, lt_l3, l3_lt, eq_l3, l3_eq, le_l4, l4_le, lt_l4, l4_lt, eq_l4, l4_eq, le_l5, l5_le, lt_l5, l5_lt, eq_l5, l5_eq, le_l6, l6_le, lt_l6, l6_lt, eq_l6, l6_eq, le_l8, l8_le, lt_l8, l8_lt, eq_l8, l8_eq, le_l9, l9_le, lt_l9, l9_lt, eq_l9, l9_eq, le_l10, l10_le, lt_l10, l10_lt, eq_l10, l10_eq, le_l11, l11_le, lt_l11, l11_lt, eq_l11, l11_eq, le_l12, l12_le, lt_l12, l12_lt, eq_l12, l12_eq, le_l14, l14_le, lt_l14, l14_lt, eq_l14, l14_eq, le_l16, l16_le, lt_l16, l16_lt, eq_l16, l16_eq, le_l20, l20_le, lt_l20, l20_lt, eq_l20, l20_eq, le_l24, l24_le, lt_l24, l24_lt, eq_l24, l24_eq, le_l64, l64_le, lt_l64, l64_lt, eq_l64, l64_eq, le_l72, l72_le, lt_l72, l72_lt, eq_l72, l72_eq, le_l242, l242_le, lt_l242, l242_lt, eq_l242, l242_eq, le_l1180, l1180_le, lt_l1180, l1180_lt, eq_l1180, l1180_eq, le_l1200, l1200_le, lt_l1200, l1200_lt, eq_l1200, l1200_eq, le_l3388, l3388_le, lt_l3388, l3388_lt, eq_l3388, l3388_eq, le_l200000, l200000_le, lt_l200000, l200000_lt, eq_l200000, l200000_eq, le_l1000000, l1000000_le, lt_l1000000, l1000000_lt, eq_l1000000, l1000000_eq, le_nI, lt_nI, eq_nI, decide_true, decide_eq_true_eq, Bool.and_true, Bool.true_and, and_true, true_and, if_true, if_false, ite_true, ite_false, decide_false, ne_eq, not_false_eq_true, not_true_eq_false, reduceCtorEq, Nat.reduceLT, Nat.reduceEqDiff, Nat.reduceMul, Nat.reduceAdd]
  generalize pI (pI (pI (pI (pI (pI (pI (pI (pI (pI σ2 51 3 0) 51 4 0) 51 5 0) 51 6 0) 51 7 0) 51 8 0) 51 9 0) 51 11 0) 51 10 10) 51 33 0 = σ3 at F3 hF3 g3 g33 ⊢
  have F4 : Fr (fF [(51, 23), (51, 24), (51, 29)]) (fA []) σ3 (pI (pI (pI σ3 51 23 (nI n)) 51 24 0) 51 29 0) := ((Fr.rf.pI 51 23 _ (by decide)).pI 51 24 _ (by decide)).pI 51 29 _ (by decide)
  have hF4 := F4.fin hF3 (by decide)
  have b23 : gI (pI (pI (pI σ3 51 23 (nI n)) 51 24 0) 51 29 0) 51 23 = nI n := by simp [gI_pI, gJ_pI, gR_pI, aI_pI, aJ_pI, aG_pI, gN_pI, gF_pI, gI_pJ, gJ_pJ, gR_pJ, aI_pJ, aJ_pJ, aG_pJ, gN_pJ, gF_pJ, gI_pR, gJ_pR, gR_pR, aI_pR, aJ_pR, aG_pR, gN_pR, gF_pR, gI_wI, gJ_wI, gR_wI, aI_wI, aJ_wI, aG_wI, gN_wI, gF_wI, gI_wJ, gJ_wJ, gR_wJ, aI_wJ, aJ_wJ, aG_wJ, gN_wJ, gF_wJ, gI_wG, gJ_wG, gR_wG, aI_wG, aJ_wG, aG_wG, gN_wG, gF_wG, fr_25_0, fr_26_0, fr_26_1, fr_26_2, fr_26_3, fr_26_4, fr_26_5, fr_26_6, fr_26_7, fr_26_8, fr_36_6, fr_36_7, fr_36_8, fr_36_9, fr_36_10, fr_36_11, fr_36_12, fr_36_13, fr_36_14, fr_46_0, fr_46_1, fr_1_0, fr_1_4, fr_1_5, fr_1_6, fr_1_7, fr_1_8, fr_1_9, fr_51_1, fr_51_12, fr_51_13, fr_51_14, fr_51_15, fr_51_16, fr_51_17, fr_51_18, fr_51_19, fr_51_20, fr_51_21, fr_51_34, fr_51_35, fr_51_36, fr_51_37, fr_51_38, fr_51_39, fr_51_40, fr_51_41, fr_51_42, fr_51_43, fr_51_44, fr_51_45, fr_51_46, fr_51_51, fr_51_52, fr_51_53, fr_51_54, fr_51_55, fr_51_56, fr_b_10, fr_b_11, fr_b_12, fr_b_13, fr_b_14, fr_b_15, fr_b_16, fr_b_17, fr_b_18, fr_b_19, fin_pI, fin_pJ, fin_wI, fin_wJ, fin_wG, sh_b_1, lt_b_1, sh_b_2, lt_b_2, sh_b_3, lt_b_3, sh_b_4, lt_b_4, sh_b_5, lt_b_5, sh_b_6, lt_b_6, sh_b_7, lt_b_7, sh_b_8, lt_b_8, sh_b_9, lt_b_9, sh_b_10, lt_b_10, sh_b, lt_b, nz_b, finN]
  have b24 : gI (pI (pI (pI σ3 51 23 (nI n)) 51 24 0) 51 29 0) 51 24 = nI 0 := by simp [gI_pI, gJ_pI, gR_pI, aI_pI, aJ_pI, aG_pI, gN_pI, gF_pI, gI_pJ, gJ_pJ, gR_pJ, aI_pJ, aJ_pJ, aG_pJ, gN_pJ, gF_pJ, gI_pR, gJ_pR, gR_pR, aI_pR, aJ_pR, aG_pR, gN_pR, gF_pR, gI_wI, gJ_wI, gR_wI, aI_wI, aJ_wI, aG_wI, gN_wI, gF_wI, gI_wJ, gJ_wJ, gR_wJ, aI_wJ, aJ_wJ, aG_wJ, gN_wJ, gF_wJ, gI_wG, gJ_wG, gR_wG, aI_wG, aJ_wG, aG_wG, gN_wG, gF_wG, fr_25_0, fr_26_0, fr_26_1, fr_26_2, fr_26_3, fr_26_4, fr_26_5, fr_26_6, fr_26_7, fr_26_8, fr_36_6, fr_36_7, fr_36_8, fr_36_9, fr_36_10, fr_36_11, fr_36_12, fr_36_13, fr_36_14, fr_46_0, fr_46_1, fr_1_0, fr_1_4, fr_1_5, fr_1_6, fr_1_7, fr_1_8, fr_1_9, fr_51_1, fr_51_12, fr_51_13, fr_51_14, fr_51_15, fr_51_16, fr_51_17, fr_51_18, fr_51_19, fr_51_20, fr_51_21, fr_51_34, fr_51_35, fr_51_36, fr_51_37, fr_51_38, fr_51_39, fr_51_40, fr_51_41, fr_51_42, fr_51_43, fr_51_44, fr_51_45, fr_51_46, fr_51_51, fr_51_52, fr_51_53, fr_51_54, fr_51_55, fr_51_56, fr_b_10, fr_b_11, fr_b_12, fr_b_13, fr_b_14, fr_b_15, fr_b_16, fr_b_17, fr_b_18, fr_b_19, fin_pI, fin_pJ, fin_wI, fin_wJ, fin_wG, sh_b_1, lt_b_1, sh_b_2, lt_b_2, sh_b_3, lt_b_3, sh_b_4, lt_b_4, sh_b_5, lt_b_5, sh_b_6, lt_b_6, sh_b_7, lt_b_7, sh_b_8, lt_b_8, sh_b_9, lt_b_9, sh_b_10, lt_b_10, sh_b, lt_b, nz_b, finN]; rfl
  have b29 : gI (pI (pI (pI σ3 51 23 (nI n)) 51 24 0) 51 29 0) 51 29 = 0 := by simp [gI_pI, gJ_pI, gR_pI, aI_pI, aJ_pI, aG_pI, gN_pI, gF_pI, gI_pJ, gJ_pJ, gR_pJ, aI_pJ, aJ_pJ, aG_pJ, gN_pJ, gF_pJ, gI_pR, gJ_pR, gR_pR, aI_pR, aJ_pR, aG_pR, gN_pR, gF_pR, gI_wI, gJ_wI, gR_wI, aI_wI, aJ_wI, aG_wI, gN_wI, gF_wI, gI_wJ, gJ_wJ, gR_wJ, aI_wJ, aJ_wJ, aG_wJ, gN_wJ, gF_wJ, gI_wG, gJ_wG, gR_wG, aI_wG, aJ_wG, aG_wG, gN_wG, gF_wG, fr_25_0, fr_26_0, fr_26_1, fr_26_2, fr_26_3, fr_26_4, fr_26_5, fr_26_6, fr_26_7, fr_26_8, fr_36_6, fr_36_7, fr_36_8, fr_36_9, fr_36_10, fr_36_11, fr_36_12, fr_36_13, fr_36_14, fr_46_0, fr_46_1, fr_1_0, fr_1_4, fr_1_5, fr_1_6, fr_1_7, fr_1_8, fr_1_9, fr_51_1, fr_51_12, fr_51_13, fr_51_14, fr_51_15, fr_51_16, fr_51_17, fr_51_18, fr_51_19, fr_51_20, fr_51_21, fr_51_34, fr_51_35, fr_51_36, fr_51_37, fr_51_38, fr_51_39, fr_51_40, fr_51_41, fr_51_42, fr_51_43, fr_51_44, fr_51_45, fr_51_46, fr_51_51, fr_51_52, fr_51_53, fr_51_54, fr_51_55, fr_51_56, fr_b_10, fr_b_11, fr_b_12, fr_b_13, fr_b_14, fr_b_15, fr_b_16, fr_b_17, fr_b_18, fr_b_19, fin_pI, fin_pJ, fin_wI, fin_wJ, fin_wG, sh_b_1, lt_b_1, sh_b_2, lt_b_2, sh_b_3, lt_b_3, sh_b_4, lt_b_4, sh_b_5, lt_b_5, sh_b_6, lt_b_6, sh_b_7, lt_b_7, sh_b_8, lt_b_8, sh_b_9, lt_b_9, sh_b_10, lt_b_10, sh_b, lt_b, nz_b, finN]
  generalize pI (pI (pI σ3 51 23 (nI n)) 51 24 0) 51 29 0 = σ4 at F4 hF4 b23 b24 b29 ⊢
  have T4 : ∀ i, i < n → aI σ4 52 i = T i := fun i hi => by
    rw [F4.aI 52 rfl, F3.aI 52 rfl, f.aI 52 rfl, F1.aI 52 rfl]
    exact hT i hi
  obtain ⟨_, μ0, e5, f5, m5⟩ := m_token (a := 0) hF4 b23 T4 b24 (by omega) (by omega) hT1
  have e67 : aI μ0 67 = aI σ2 67 := (frx_A f5 (by decide)).trans ((frx_A F4 (by decide)).trans (frx_A F3 (by decide)))
  refine ⟨μ0, by rw [e5, bnd_some], ?_, m5, ?_, fun j hj => ?_, ?_, ?_, ?_⟩
  · exact (F1.up (by decide) rfl).trans ((f.up rfl rfl).trans ((F3.up (by decide) rfl).trans ((F4.up (by decide) rfl).trans (f5.up (by decide) rfl))))
  · rw [f5.I 51 29 rfl, b29]
  · have q : ∀ j ∈ jL, fF [(51, 24), (51, 25), (51, 26), (51, 27), (51, 28)] 51 (mfd j) = false ∧ fF [(51, 23), (51, 24), (51, 29)] 51 (mfd j) = false := by decide +kernel
    rw [f5.I 51 _ (q j hj).1, F4.I 51 _ (q j hj).2]
    exact g3 j hj
  · rw [f5.I 51 33 rfl, F4.I 51 33 rfl, g33]
  · rw [e67]; exact K1 _ ka
  · rw [e67]; exact K2 _ kn
theorem BK.cgE {τ μ υ ω : Sg} {b : Nat} {W tn : Nat → Nat} (h : BK τ μ b W tn) (hb : isB b) (f : Fr (fF [(1, 2), (1, 3), (26, 10)]) (fA [27, 28, 29, 30, 32, 33]) τ υ) (g : Fr (fF [(51, 2), (51, 22), (51, 31), (51, 32)]) (fA [60, 61]) μ ω) : BK υ ω b W tn := by
  obtain ⟨⟨c1, c2, c3⟩, bd, bn, br, bl, bt⟩ := h
  have gb : ∀ j, gI υ b j = gI τ b j := fun j => f.I b j (by rcases hb with rfl | rfl <;> exact fF_no (by simp))
  have gm : ∀ j, j ∈ [3, 4, 5, 6, 7, 8, 9, 10, 11, 33] → gI ω 51 j = gI μ 51 j := fun j hj => g.I 51 j (by
    have : ∀ j ∈ [3, 4, 5, 6, 7, 8, 9, 10, 11, 33], fF [(51, 2), (51, 22), (51, 31), (51, 32)] 51 j = false := by decide
    exact this j hj)
  have fg : ∀ j, j ≤ 10 → b + j ∉ [27, 28, 29, 30, 32, 33] := fun j hj => by rcases hb with rfl | rfl <;> simp <;> omega
  refine ⟨⟨fun j hj => ?_, ?_⟩, bd, ⟨bn.1.cg (frx_J f (fg 1 (by omega))) (frx_A g (by decide)), bn.2.1.cg (frx_J f (fg 2 (by omega))) (frx_A g (by decide)), bn.2.2.cg (frx_J f (fg 3 (by omega))) (frx_A g (by decide))⟩, br.cg (fun j _ _ => frx_G f (fg j (by omega))) (fun a _ _ => frx_A g (by simp; omega)) (fun j _ _ => rfl), bl.cg (fun j _ _ => frx_G f (fg j (by omega))) (frx_A g (by decide)) rfl (Nat.le_refl _),
    bt.cg (frx_G f (fg 5 (by omega))) (frx_G f (fg 9 (by omega))) (frx_G f (fg 10 (by omega))) (frx_A g (by decide)) (frx_A g (by decide)) (frx_A g (by decide)) (frx_A g (by decide)) rfl (Nat.le_refl _) (Nat.le_refl _)⟩
  · rw [gb j, gm (mfd j) (by
      have : ∀ j ∈ jL, mfd j ∈ [3, 4, 5, 6, 7, 8, 9, 10, 11, 33] := by decide
      exact this j hj)]
    exact c1 j hj
  · rw [gb 8, gm 33 (by decide)]
    exact ⟨c2, c3⟩
abbrev TCb (d : Nat) : List (Nat × Nat) := (1, 1) :: OpF d
abbrev TC (d : Nat) : List (Nat × Nat) := [(1, 1), (1, 2), (1, 3), (26, 10)] ++ OpF d
abbrev TA (d : Nat) : List Nat := LA d ++ [27, 28, 29, 30, 32, 33]
abbrev TMb : List (Nat × Nat) := LM ++ [(51, 0), (51, 23), (51, 2), (51, 31), (51, 32)]
abbrev TMAb : List Nat := LMA ++ [67, 68]
abbrev TM : List (Nat × Nat) := (51, 22) :: TMb
abbrev TMA : List Nat := 61 :: TMAb
def QT (σ ρ : Sg) (b d n : Nat) (D0 : Nat → Nat → Int32) (r : Int32) (υ : Sg) (s : Int32) (ω : Sg) : Prop :=
  s = r ∧ Fr (fF (TC d)) (fA (TA d)) σ υ ∧ (gI υ 1 1 = 0 ∧ gI ω 51 2 = 0 ∧ gI υ 25 9 = gI ω 51 31 ∧ gI υ 25 10 = gI ω 51 32) ∧
  ((Fr (fF (TCb d)) (fA (LA d)) σ υ ∧ Fr (fF TMb) (fA TMAb) ρ ω ∧ (∃ g, KpA g ρ ∧ KpN g ρ ∧ KpA g ω ∧ KpN g ω) ∧ ∀ x y, x < 12 → y < 12 → aI ω 60 (12 * x + y) = D0 x y) ∨
   (Fr (fF TM) (fA TMA) ρ ω ∧ gR υ 1 2 = d ∧ gR υ 1 3 = b ∧ LedO υ d υ ∧ gI ω 51 22 = 0 ∧ (∀ x, x < 242 → aI ω 61 x = if x < 64 then aI ω 66 x else 0) ∧ ∃ W tn, W 0 ≤ n ∧ BK υ ω d W tn ∧ ∀ x y, x < 12 → y < 12 → aI ω 60 (12 * x + y) = aG υ (d + 5) x y))
theorem txt_run {σ ρ : Sg} {b d n p0 : Nat} {T : Nat → Int32} {D0 : Nat → Nat → Int32} (hF : Fin0 σ) (hM : Fin0 ρ) (hb : isB b) (hd : isB d) (r2 : gR σ 1 2 = b) (r3 : gR σ 1 3 = d) (hn : n ≤ p0) (hp0 : p0 ≤ 1200) (c1 : gI σ 1 1 = nI p0) (m2 : gI ρ 51 2 = nI p0)
    (hT : ∀ i, i < n → aI σ 2 i = T i) (hTm : ∀ i, i < n → aI ρ 52 i = T i) (hT1 : ∀ i, i < n → T i ≠ -1)
    (hback : ∀ g ρ', Fin0 ρ' → KpA g ρ → KpN g ρ → KpA g ρ' → KpN g ρ' → Ok (DX8_laysMiles 51 ρ') (fun _ ω => Fr (fF []) (fA [60]) ρ' ω ∧ ∀ x y, x < 12 → y < 12 → aI ω 60 (12 * x + y) = D0 x y)) :
    Ok2 (DX7_text 1 (nI n) σ) (DX8_text 51 (nI n) ρ) (QT σ ρ b d n D0) := by
  obtain ⟨μ0, eM, fM, m0, m29, mc, m33, ka, kn⟩ := m_pre hM m2 hp0 hn hTm hT1
  have hM0 : Fin0 μ0 := m0.1
  have F1 : Fr (fF [(1, 1)]) (fA []) σ (pI σ 1 1 0) := Fr.rf.pI 1 1 _ (by decide)
  have hF1 := F1.fin hF (by decide)
  have a1 : gI (pI σ 1 1 0) 1 1 = 0 := by rw [gI_pI, if_pos ⟨rfl, rfl⟩]
  rw [eM]
  unfold DX7_text
  rw [if_neg (by rw [show (0 : Int32) = nI 0 from rfl, nI_ltI (by omega) (by omega)]; omega), c_o hF, chk_true, c1, if_pos (by rw [nI_leI (by omega) (by omega)]; omega), chk_true, wlet_eq]
  generalize pI σ 1 1 0 = σ1 at F1 hF1 a1 ⊢
  have r31 : gR σ1 1 3 = d := (F1.R 1 3 rfl).trans r3
  have r21 : gR σ1 1 2 = b := (F1.R 1 2 rfl).trans r2
  rw [c_o hF1, chk_true, fr_1_4 hF1, show ckV 25 = true from rfl, chk_true, chk_true, r31, ckV_b hd, chk_true, c_ck hF1, chk_true]
  refine ok2_l (c_open hF1 hd (fun i hi => (F1.aI 2 rfl i).trans (hT i hi)) (by omega)) (fun _ τ0 h0 => ?_)
  obtain ⟨f0, q25, q9, q10, ⟨pt, cs⟩, gb, tb⟩ := h0
  have hF0 : Fin0 τ0 := cs.1
  have FC0 : Fr (fF (TCb d)) (fA (LA d)) σ τ0 := (F1.up (by rcases hd with rfl | rfl <;> decide) rfl).trans (f0.up (by rcases hd with rfl | rfl <;> decide) (by rcases hd with rfl | rfl <;> decide))
  have RS0 := rs_start cs m0 q25 m29 hd gb mc m33 tb
  have u1 : ((LC d).all fun q => fF (TCb d) q.1 q.2) = true := by rcases hd with rfl | rfl <;> decide
  have u2 : ((LA d).all fun q => fA (LA d) q) = true := by rcases hd with rfl | rfl <;> decide
  have u3 : ((TCb d).all fun q => fF (TC d) q.1 q.2) = true := by rcases hd with rfl | rfl <;> decide
  have u4 : ((LA d).all fun q => fA (TA d) q) = true := by rcases hd with rfl | rfl <;> decide
  have u5 : ([(1, 2), (1, 3), (26, 10)].all fun q => fF (TC d) q.1 q.2) = true := by rcases hd with rfl | rfl <;> decide
  have u6 : ([27, 28, 29, 30, 32, 33].all fun q => fA (TA d) q) = true := by rcases hd with rfl | rfl <;> decide
  have n11 : fF (OpF d) 1 1 = false := by rcases hd with rfl | rfl <;> decide
  have n11' : fF (LC d) 1 1 = false := by rcases hd with rfl | rfl <;> decide
  have n12 : fF (TCb d) 1 2 = false ∧ fF (TCb d) 1 3 = false := by rcases hd with rfl | rfl <;> decide
  have FM0 : Fr (fF TMb) (fA TMAb) ρ μ0 := fM.up (by decide) (by decide)
  refine tx_loop (n := n) (b := d) (τ0 := τ0) (μ0 := μ0) (fun W tn τ μ pt p a h f g => ?_) (fun τ μ ff q hf hFτ hMμ fc fm f g => ?_) hF0 hM0 hd (by omega) n 0 FU FU W00 (fun _ => 0) τ0 μ0 pt _ _ (by omega) (by omega) (by unfold FU; omega) (by unfold FU; omega) RS0 Fr.rf Fr.rf
  · -- the text ends
    obtain ⟨hc, hm, h25, h29, -, hW0, hK⟩ := h
    obtain ⟨bc, bd, -, -, bl, -⟩ := id hK
    have FCτ := FC0.trans (f.up u1 u2)
    have FMμ := FM0.trans (g.up (l2 := TMb) (m2 := TMAb) (by decide) (by decide))
    have c0 := bc.1 0 (by decide)
    have m5 : gI μ 51 5 = nI (W 3) := (bc.1 3 (by decide)).2
    refine (c_end67 hc.1 hb hd ((FCτ.R 1 2 n12.1).trans r2) ((FCτ.R 1 3 n12.2).trans r3)).mono (fun r υ hu => ?_)
    obtain ⟨v1, v2, v3, v4, v5⟩ := hu
    refine (m_endG (D := aG τ (d + 5)) hm.1 h29 (fun ρ' hρ e5 e53 => m_lyM (τ := τ) (b := d) (W := W) hρ (e5.trans m5) bd.2.2.1 bd.1 (bl.cg (fun _ _ _ => rfl) e53 rfl (Nat.le_refl _)))).mono (fun s ω hw => ?_)
    obtain ⟨w1, w2, w3, w4, w5, w6, w7, w8⟩ := hw
    have e5 : aG υ (d + 5) = aG τ (d + 5) := frx_G v2 (by rcases hd with rfl | rfl <;> decide)
    have e9 : aG υ (d + 9) = aG τ (d + 9) := frx_G v2 (by rcases hd with rfl | rfl <;> decide)
    have e66 : aI ω 66 = aI μ 66 := frx_A w2 (by decide)
    refine ⟨?_, (FCτ.up u3 u4).trans (v2.up u5 u6), ⟨?_, w3, ?_, ?_⟩, Or.inr ⟨(FMμ.up (by decide) (by decide)).trans (w2.up (by decide) (by decide)), v3, v4, ?_, w6, fun x hx => ?_, W, tn, ?_, hK.cgE hd v2 w2, fun x y hx hy => ?_⟩⟩
    · rw [w1, v1, c0.1]; exact c0.2
    · rw [v2.I 1 1 rfl, f.I 1 1 n11', f0.I 1 1 n11, a1]
    · rw [v2.I 25 9 rfl, w4]; exact hc.2.2.2.2.2.2.2.2.2.2.2.1
    · rw [v2.I 25 10 rfl, w5]; exact hc.2.2.2.2.2.2.2.2.2.2.2.2
    · unfold LedO at v5 ⊢
      rw [e9]
      exact v5
    · rw [w8 x hx, e66]
    · have := hc.2.2.2.2.2.2.2.1
      omega
    · rw [w7 x y hx hy, e5]
  · -- a fault
    have FCτ := FC0.trans (f.up u1 u2)
    have FMμ := FM0.trans (g.up (l2 := TMb) (m2 := TMAb) (by decide) (by decide))
    have e67 : aI μ 67 = aI μ0 67 := frx_A g (by decide)
    rw [← e67] at ka kn
    refine ok_some.mpr ?_
    refine (m_endB (D := D0) hMμ hf fm (fun ρ' h1 h2 h3 => hback _ ρ' h1 ka kn h2 h3)).mono (fun s ω hw => ?_)
    obtain ⟨w1, w2, w3, w4, w5, w6, w7, w8⟩ := hw
    refine ⟨w1, FCτ.up u3 u4, ⟨?_, w3, ?_, ?_⟩, Or.inl ⟨FCτ, FMμ.trans (w2.up (by decide) (by decide)), ⟨_, ka, kn, w6, w7⟩, w8⟩⟩
    · rw [f.I 1 1 n11', f0.I 1 1 n11, a1]
    · rw [w4]; exact fc.1
    · rw [w5]; exact fc.2

theorem m_cents {σ : Sg} {n fl : Nat} {r : RT} {P0 : Int} {M : Int64} {wh0 : Nat → Int} (hF : Fin0 σ) (hn : n ≤ 8) (hfl : fl ≤ n) (hE : MoE σ n r) (hOK : PrOK fl n P0 r) (h5 : Fl5 fl wh0 r) (hw0 : ∀ k, k < fl → 0 ≤ wh0 k ∧ wh0 k ≤ 9999999) (hb : ∀ k, fl ≤ k → k < n → r.1 k ≠ 5) (hM : M.toInt = P0) (hP : 0 ≤ P0 ∧ P0 ≤ 9999999) :
    Ok (DX8_cents 51 (nI n) M σ) (fun _ υ => Fr (fF [(51, 50)]) (fA [76]) σ υ ∧ (gI υ 51 50).toInt = lfF r fl n P0 ∧ (∀ k, k < fl → (aI υ 76 k).toInt = wh0 k) ∧
      ∀ k, fl ≤ k → k < n → (aI υ 76 k).toInt = r.2.1 k + r.2.2.1 k / r.2.2.2.1 + if (rk (fun k => r.2.2.1 k % r.2.2.2.1) fl n k : Int) < lfF r fl n P0 then 1 else 0) := by
  obtain ⟨E1, E2, E3⟩ := hE
  have hlb := lf_bd hOK
  obtain ⟨o1, o2, o3, o4⟩ := hOK
  have z0 : ∀ j, fl ≤ j → j < fl + (n - fl) → 0 ≤ (fun k => r.2.1 k + r.2.2.1 k / r.2.2.2.1) j := fun j a c => by
    have := (o1 j a (by omega)).1
    have := Int.ediv_nonneg (o1 j a (by omega)).2.2 (Int.le_of_lt o2)
    show 0 ≤ r.2.1 j + r.2.2.1 j / r.2.2.2.1
    omega
  have hA : ∀ k, k < n → (aJ σ 70 k).toInt = r.2.2.1 k ∧ 0 ≤ r.2.2.1 k ∧ (aJ σ 69 k).toInt = r.2.1 k ∧ 0 ≤ r.2.1 k ∧ r.2.1 k + r.2.2.1 k / r.2.2.2.1 ≤ 99999999 ∧ aI σ 74 k = r.1 k := fun k hk => by
    obtain ⟨a1, a2, a3⟩ := E1 k hk
    rcases Nat.lt_or_ge k fl with q | q
    · obtain ⟨b1, b2, b3⟩ := h5 k q
      have := hw0 k q
      refine ⟨a3, by rw [b3]; omega, a2, by rw [b2]; omega, by rw [b2, b3, Int.zero_ediv]; omega, a1⟩
    · have := sI_mem (n - fl) fl z0 k q (by omega)
      have h9 := hlb.1
      unfold lfF at h9
      exact ⟨a3, (o1 k q hk).2.2, a2, (o1 k q hk).1, by omega, a1⟩
  obtain ⟨x, x1, x2⟩ := m_ct6 (bv := r.1) (un := r.2.2.2.1) hF hn hA E2 o2 n 0 FU M (by omega) (by unfold FU; omega) (by omega) (by omega)
  have x3 : x.toInt = lfF r fl n P0 := by
    rw [x2, hM]
    have := sI_shift (f := fun k => if r.1 k = 5 then 0 else r.2.1 k + r.2.2.1 k / r.2.2.2.1) hfl (fun k hk => by rw [(h5 k hk).1]; rfl)
    rw [Nat.sub_zero] at this
    rw [this, sI_congr (g := fun k => r.2.1 k + r.2.2.1 k / r.2.2.2.1) (n - fl) fl (fun k a b => if_neg (hb k a (by omega)))]
    rfl
  have hq := hlb.2.1
  have hq0 := hlb.1
  have f1 : Fr (fF [(51, 50)]) (fA []) σ (pI σ 51 50 x.toInt32) := Fr.rf.pI 51 50 _ rfl
  have hF1 := f1.fin hF (by decide)
  have h68 := m_ct68 (pt := r.2.2.1) (wh := r.2.1) (un := r.2.2.2.1) (L := x) hF1 hn (fun k hk => ⟨(hA k hk).1, (hA k hk).2.1, (hA k hk).2.2.1, (hA k hk).2.2.2.1, (hA k hk).2.2.2.2.1⟩) E2 o2 n 0 FU _ (by omega) (by unfold FU; omega) Fr.rf (fun k hk => by omega)
  obtain ⟨k1, k2⟩ := rk_fl (r := fun k => r.2.2.1 k % r.2.2.2.1) (un := r.2.2.2.1) (L := lfF r fl n P0) hfl (fun k hk => by show r.2.2.1 k % r.2.2.2.1 = 0; rw [(h5 k hk).2.2, Int.zero_emod]) (fun k _ _ => ⟨Int.emod_nonneg _ (by omega), Int.emod_lt_of_pos _ o2⟩) hlb.2.2 o2
  unfold DX8_cents
  rw [show nI 0 = (0 : Int32) from rfl] at x1
  rw [x1]
  unfold DX8_cents_58
  simp (disch := first | assumption | omega) only [ok_chk, ok_let, ckO, ckI, ckZ, ckJ, ckG, ckR, ckL, ckV, gI_pI, gJ_pI, gR_pI, aI_pI, aJ_pI, aG_pI, gN_pI, gF_pI, gI_pJ, gJ_pJ, gR_pJ, aI_pJ, aJ_pJ, aG_pJ, gN_pJ, gF_pJ, gI_pR, gJ_pR, gR_pR, aI_pR, aJ_pR, aG_pR, gN_pR, gF_pR, gI_wI, gJ_wI, gR_wI, aI_wI, aJ_wI, aG_wI, gN_wI, gF_wI, gI_wJ, gJ_wJ, gR_wJ, aI_wJ, aJ_wJ, aG_wJ, gN_wJ, gF_wJ, gI_wG, gJ_wG, gR_wG, aI_wG, aJ_wG, aG_wG, gN_wG, gF_wG, fr_25_0, fr_26_0, fr_26_1, fr_26_2, fr_26_3, fr_26_4, fr_26_5, fr_26_6, fr_26_7, fr_26_8, fr_36_6, fr_36_7, fr_36_8, fr_36_9, fr_36_10, fr_36_11, fr_36_12, fr_36_13, fr_36_14, fr_46_0, fr_46_1, fr_1_0, fr_1_4, fr_1_5, fr_1_6, fr_1_7, fr_1_8, fr_1_9, fr_51_1, fr_51_12, fr_51_13, fr_51_14, fr_51_15, fr_51_16, fr_51_17, fr_51_18, fr_51_19, fr_51_20, fr_51_21, fr_51_34, fr_51_35, fr_51_36, fr_51_37, fr_51_38, fr_51_39, fr_51_40, fr_51_41, fr_51_42, fr_51_43, fr_51_44, fr_51_45, fr_51_46, fr_51_51, fr_51_52, fr_51_53, fr_51_54, fr_51_55, fr_51_56, fr_b_10, fr_b_11, fr_b_12, fr_b_13, fr_b_14, fr_b_15, fr_b_16, fr_b_17, fr_b_18, fr_b_19, fin_pI, fin_pJ, fin_wI, fin_wJ, fin_wG, sh_b_1, lt_b_1, sh_b_2, lt_b_2, sh_b_3, lt_b_3, sh_b_4, lt_b_4, sh_b_5, lt_b_5, sh_b_6, lt_b_6, sh_b_7, lt_b_7, sh_b_8, lt_b_8, sh_b_9, lt_b_9, sh_b_10, lt_b_10, sh_b, lt_b, nz_b, finN, sh_1, sh_2, sh_25, sh_26, sh_27, sh_28, sh_29, sh_30, sh_31, sh_32, sh_33, sh_34, sh_35, sh_36, sh_37, sh_38, sh_39, sh_40, sh_41, sh_42, sh_43, sh_44, sh_45, sh_46, sh_47, sh_48, sh_49, sh_50, sh_51, sh_52, sh_53, sh_54, sh_55, sh_56, sh_57, sh_58, sh_59, sh_60, sh_61, sh_62, sh_63, sh_64, sh_65, sh_66, sh_67, sh_68, sh_69, sh_70, sh_71, sh_72, sh_73, sh_74, sh_75, sh_76, sh_77, sh_78, sh_79, sh_80, sh_81, sh_82, mul_nI_2, mul_nI_3, mul_nI_4, mul_nI_6, mul_nI_8, mul_nI_10, mul_nI_11, mul_nI_12, mul_nI_27, mul_nI_36, mul_nI_242, add_nI_0, dda_nI_0, add_nI_1, dda_nI_1, add_nI_2, dda_nI_2, add_nI_3, dda_nI_3, add_nI_4, dda_nI_4, add_nI_5, dda_nI_5, add_nI_6, dda_nI_6, add_nI_8, dda_nI_8, add_nI_12, dda_nI_12, add_nI_64, dda_nI_64, add_nI_128, dda_nI_128, add_nI_192, dda_nI_192, add_nI_228, dda_nI_228, add_nI_234, dda_nI_234, add_nI_242, dda_nI_242, sub_nI_1, sub_nI_2, sub_nI_20, sub_nI_242, inb_0, ixl_0, inb_1, ixl_1, inb_2, ixl_2, inb_3, ixl_3, inb_4, ixl_4, inb_5, ixl_5, inb_6, ixl_6, inb_7, ixl_7, inb_8, ixl_8, inb_9, ixl_9, inb_10, ixl_10, inb_11, ixl_11, nI_add, pk_mul, ixn, inbn, le_l0, l0_le, lt_l0, l0_lt, eq_l0, l0_eq, le_l1, l1_le, lt_l1, l1_lt, eq_l1, l1_eq, le_l2, l2_le, lt_l2, l2_lt, eq_l2, l2_eq, le_l3, l3_le, lt_l3, l3_lt, eq_l3, l3_eq, le_l4, l4_le, lt_l4, l4_lt, eq_l4, l4_eq, le_l5, l5_le, lt_l5, l5_lt, eq_l5, l5_eq, le_l6, l6_le, lt_l6, l6_lt, eq_l6, l6_eq, le_l8, l8_le, lt_l8, l8_lt, eq_l8, l8_eq, le_l9, l9_le, lt_l9, l9_lt, eq_l9, l9_eq, le_l10, l10_le, lt_l10, l10_lt, eq_l10, l10_eq, le_l11, l11_le, lt_l11, l11_lt, eq_l11, l11_eq, le_l12, l12_le, lt_l12, l12_lt, eq_l12, l12_eq, le_l14, l14_le, lt_l14, l14_lt, eq_l14, l14_eq, le_l16, l16_le, lt_l16, l16_lt, eq_l16, l16_eq, le_l20, l20_le, lt_l20, l20_lt, eq_l20, l20_eq, le_l24, l24_le, lt_l24, l24_lt, eq_l24, l24_eq, le_l64, l64_le, lt_l64, l64_lt, eq_l64, l64_eq, le_l72, l72_le, lt_l72, l72_lt, eq_l72, l72_eq, le_l242, l242_le, lt_l242, l242_lt, eq_l242, l242_eq, le_l1180, l1180_le, lt_l1180, l1180_lt, eq_l1180, l1180_eq, le_l1200, l1200_le, lt_l1200, l1200_lt, eq_l1200, l1200_eq, le_l3388, l3388_le, lt_l3388, l3388_lt, eq_l3388, l3388_eq, le_l200000, l200000_le, lt_l200000, l200000_lt, eq_l200000, l200000_eq, le_l1000000, l1000000_le, lt_l1000000, l1000000_lt, eq_l1000000, l1000000_eq, le_nI, lt_nI, eq_nI, decide_true, decide_eq_true_eq, Bool.and_true, Bool.true_and, and_true, true_and, if_true, if_false, ite_true, ite_false, decide_false, ne_eq, not_false_eq_true, not_true_eq_false, reduceCtorEq, Nat.reduceLT, Nat.reduceEqDiff, Nat.reduceMul, Nat.reduceAdd]
  refine h68.mono (fun _ υ hu => ⟨(f1.up rfl rfl).trans (hu.1.up rfl rfl), ?_, fun k hk => ?_, fun k a b => ?_⟩)
  · rw [hu.1.I 51 50 rfl, gI_pI, if_pos ⟨rfl, rfl⟩, l_i (by omega) (by omega), x3]
  · rw [hu.2 k (by omega), x3, if_neg (k2 k hk), (h5 k hk).2.1, (h5 k hk).2.2, Int.zero_ediv]
    omega
  · rw [hu.2 k b, x3]
    congr 1
    by_cases c : (rk (fun k => r.2.2.1 k % r.2.2.2.1) fl n k : Int) < lfF r fl n P0
    · rw [if_pos c, if_pos ((k1 k a b).mpr c)]
    · rw [if_neg c, if_neg (fun z => c ((k1 k a b).mp z))]

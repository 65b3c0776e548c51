theorem m_first {τ : Sg} {n fl : Nat} {kd : Nat → Int32} {vl fc wh : Nat → Int} {pool : Int} (hB : MoB n vl fc) (hfl : fl ≤ n) (h : MoS τ n kd (bv5 fl) vl fc wh pool 0) (hu : (gJ τ 51 47).toInt = 1) (hp : 0 ≤ pool ∧ pool ≤ 9999999) (hw : ∀ k, fl ≤ k → k < n → wh k = 0) :
    Ok (DX8_goesFirst 51 (nI n) τ) (fun _ υ => Fr (fF [(51, 47), (51, 48), (51, 49)]) (fA [69, 70, 74, 75]) τ υ ∧ ∃ r, MoE υ n r ∧ RTE fl n r (prF kd vl fc fl n pool) ∧ Fl5 fl wh r) := by
  have h' := h
  obtain ⟨hF, hn, hA, hpl, hr⟩ := h'
  obtain ⟨υ, x, e1, e2, e3, e4⟩ := m_gf11 h.w hB n 0 FU 0 0 0 τ (by omega) (by unfold FU; omega) Fr.rf (by decide) (by rw [l_0]; omega) (fun k hk => by omega) (fun k _ => rfl)
  have e3' : x.toInt = fiS kd vl fl n := by
    rw [e3, l_0]
    have := sI_shift (f := fun k => if fsB kd (bv5 fl) k then vl k else 0) hfl (fun k hk => by rw [fs5]; simp; omega)
    rw [Nat.sub_zero] at this
    rw [this]
    unfold fiS
    rw [sI_congr (g := fun k => if isF kd k then vl k else 0) (n - fl) fl (fun k a b => by rw [fs5]; simp [a])]
    omega
  have hfn : 0 ≤ fiS kd vl fl n := sI_nn _ _ (fun k a b => ite_nn (hB k (by omega)).1.1)
  have hot : cN (fun k => decide (bv5 fl k = 0) && !isF kd k) 0 n = cN (fun k => !isF kd k) fl (n - fl) := by
    rw [cN_shift hfl (fun k hk => by simp [bv5, hk])]
    exact cN_congr _ _ (fun k a b => by simp [bv5]; omega)
  have hfi : cN (fsB kd (bv5 fl)) 0 n = cN (isF kd) fl (n - fl) := by
    rw [cN_shift hfl (fun k hk => by rw [fs5]; simp; omega)]
    exact cN_congr _ _ (fun k a b => by rw [fs5]; simp [a])
  rw [hot, hfi, Nat.zero_add, Nat.zero_add, show nI 0 = (0 : Int32) from rfl] at e1
  have lo := cN_le (p := fun k => !isF kd k) (n - fl) fl
  have lf := cN_le (p := isF kd) (n - fl) fl
  have hFu := e2.fin hF (by decide)
  have hWu := h.w.fr e2 (by decide) rfl rfl rfl rfl rfl
  have g74 : ∀ k, k < n → aI υ 74 k = if k < fl then 5 else by1 kd k := fun k hk => by
    rw [e4 k hk, fs5, (hA k hk).2.2.2.1]
    unfold bv5 by1
    by_cases c : k < fl
    · simp [c]; omega
    · simp [c, show fl ≤ k by omega]
  have epu : (gJ υ 51 48).toInt = pool := by rw [e2.J 51 48 rfl]; exact hpl
  have hle : (x ≤ gJ υ 51 48) ↔ fiS kd vl fl n ≤ pool := by rw [l_le, e3', epu]
  unfold DX8_goesFirst
  rw [e1]
  have key : fiS kd vl fl n ≤ pool → Ok (DX8_goesFirst_163 51 (nI n) x (nI (cN (fun k => !isF kd k) fl (n - fl))) (nI (cN (isF kd) fl (n - fl))) υ) (fun _ υ => Fr (fF [(51, 47), (51, 48), (51, 49)]) (fA [69, 70, 74, 75]) τ υ ∧ ∃ r, MoE υ n r ∧ RTE fl n r (prF kd vl fc fl n pool) ∧ Fl5 fl wh r) := by
    intro hge
    have hnlt : ¬ pool < fiS kd vl fl n := by omega
    have f1 : Fr (fF [(51, 48)]) (fA []) υ (pJ υ 51 48 (gJ υ 51 48 - x)) := Fr.rf.pJ 51 48 _ rfl
    have hF1 := f1.fin hFu (by decide)
    have hp2 : 0 ≤ pool - fiS kd vl fl n ∧ pool - fiS kd vl fl n ≤ 9999999 := by omega
    have ep1 : (gJ (pJ υ 51 48 (gJ υ 51 48 - x)) 51 48).toInt = pool - fiS kd vl fl n := by
      rw [gJ_pJ, if_pos ⟨rfl, rfl⟩, l_sub (by rw [epu, e3']; exact sm_of (by omega) (by omega)), epu, e3']
    have hW1 : MoW (pJ υ 51 48 (gJ υ 51 48 - x)) n kd (bv5 fl) vl fc (pool - fiS kd vl fl n) := ⟨hF1, hn, fun k hk => hWu.2.2.1 k hk, ep1⟩
    obtain ⟨ω, y, w1, w2, w3, w4⟩ := m_gf179 (ot := cN (fun k => !isF kd k) fl (n - fl)) (fi := cN (isF kd) fl (n - fl)) hW1 hB n 0 FU 0 _ (by omega) (by unfold FU; omega) Fr.rf (by decide) (by rw [l_0]; omega) (fun k hk => by omega) (fun k _ => ⟨rfl, rfl⟩)
    rw [show nI 0 = (0 : Int32) from rfl] at w1
    have hFw := w2.fin hF1 (by decide)
    have fw : Fr (fF [(51, 48)]) (fA [69, 74, 75]) τ ω := ((e2.up rfl rfl).trans (f1.up rfl rfl)).trans (w2.up rfl rfl)
    have epw : (gJ ω 51 48).toInt = pool - fiS kd vl fl n := by rw [w2.J 51 48 rfl]; exact ep1
    have g74w : ∀ k, k < n → aI ω 74 k = if k < fl then 5 else by1 kd k := fun k hk => (w2.aI 74 rfl k).trans (g74 k hk)
    have hM : MoS ω n kd (fun k => if k < fl then 5 else by1 kd k) vl fc (fun k => if fsB kd (bv5 fl) k then vl k else wh k) (pool - fiS kd vl fl n) 0 := by
      refine ⟨hFw, hn, fun k hk => ?_, epw, (fw.I 51 49 rfl).trans hr⟩
      obtain ⟨a1, a2, a3, a4, a5, a6, a7⟩ := hA k hk
      obtain ⟨p1, p2⟩ := w4 k hk
      refine ⟨(fw.aI 73 rfl k).trans a1, by rw [fw.aJ 72 rfl k]; exact a2, by rw [fw.aJ 71 rfl k]; exact a3, g74w k hk, ?_, ?_, (fw.aJ 70 rfl k).trans a7⟩
      · rw [p2, show aI (pJ υ 51 48 (gJ υ 51 48 - x)) 75 k = aI τ 75 k from e2.aI 75 rfl k, a5, fs5]
        unfold bv5 by1
        by_cases c : k < fl
        · simp [c]
        · cases hf : isF kd k with
          | false => simp [c, hf]
          | true =>
            have : kd k ≠ 0 := fun z => by simp [isF, z] at hf
            simp [c, hf, this, show fl ≤ k by omega]
      · rw [p1, show aJ (pJ υ 51 48 (gJ υ 51 48 - x)) 69 k = aJ τ 69 k from e2.aJ 69 rfl k, a6]
    have wf : ∀ k, fl ≤ k → k < n → (if fsB kd (bv5 fl) k then vl k else wh k) = whF kd vl k := fun k a b => by
      rw [fs5, hw k a b]
      simp [a, whF]
    have wl : ∀ k, k < fl → (if fsB kd (bv5 fl) k then vl k else wh k) = wh k := fun k a => by
      rw [fs5]
      simp
      omega
    have ft : Fr (fF [(51, 47), (51, 48), (51, 49)]) (fA [69, 70, 74, 75]) τ ω := fw.up rfl rfl
    unfold DX8_goesFirst_163
    simp (disch := first | assumption | omega) only [ok_chk, ok_let, ckO, ckI, ckZ, ckJ, ckG, ckR, ckL, ckV, gI_pI, gJ_pI, gR_pI, aI_pI, aJ_pI, aG_pI, gN_pI, gF_pI, gI_pJ, gJ_pJ, gR_pJ, aI_pJ, aJ_pJ, aG_pJ, gN_pJ, gF_pJ, gI_pR, gJ_pR, gR_pR, aI_pR, aJ_pR, aG_pR, gN_pR, gF_pR, gI_wI, gJ_wI, gR_wI, aI_wI, aJ_wI, aG_wI, gN_wI, gF_wI, gI_wJ, gJ_wJ, gR_wJ, aI_wJ, aJ_wJ, aG_wJ, gN_wJ, gF_wJ, gI_wG, gJ_wG, gR_wG, aI_wG, aJ_wG, aG_wG, gN_wG, gF_wG, fr_25_0, fr_26_0, fr_26_1, fr_26_2, fr_26_3, fr_26_4, fr_26_5, fr_26_6, fr_26_7, fr_26_8, fr_36_6, fr_36_7, fr_36_8, fr_36_9, fr_36_10, fr_36_11, fr_36_12, fr_36_13, fr_36_14, fr_46_0, fr_46_1, fr_1_0, fr_1_4, fr_1_5, fr_1_6, fr_1_7, fr_1_8, fr_1_9, fr_51_1, fr_51_12, fr_51_13, fr_51_14, fr_51_15, fr_51_16, fr_51_17, fr_51_18, fr_51_19, fr_51_20, fr_51_21, fr_51_34, fr_51_35, fr_51_36, fr_51_37, fr_51_38, fr_51_39, fr_51_40, fr_51_41, fr_51_42, fr_51_43, fr_51_44, fr_51_45, fr_51_46, fr_51_51, fr_51_52, fr_51_53, fr_51_54, fr_51_55, fr_51_56, fr_b_10, fr_b_11, fr_b_12, fr_b_13, fr_b_14, fr_b_15, fr_b_16, fr_b_17, fr_b_18, fr_b_19, fin_pI, fin_pJ, fin_wI, fin_wJ, fin_wG, sh_b_1, lt_b_1, sh_b_2, lt_b_2, sh_b_3, lt_b_3, sh_b_4, lt_b_4, sh_b_5, lt_b_5, sh_b_6, lt_b_6, sh_b_7, lt_b_7, sh_b_8, lt_b_8, sh_b_9, lt_b_9, sh_b_10, lt_b_10, sh_b, lt_b, nz_b, finN, sh_1, sh_2, sh_25, sh_26, sh_27, sh_28, sh_29, sh_30, sh_31, sh_32, sh_33, sh_34, sh_35, sh_36, sh_37, sh_38, sh_39, sh_40, sh_41, sh_42, sh_43, sh_44, sh_45, sh_46, sh_47, sh_48, sh_49, sh_50, sh_51, sh_52, sh_53, sh_54, sh_55, sh_56, sh_57, sh_58, sh_59, sh_60, sh_61, sh_62, sh_63, sh_64, sh_65, sh_66, sh_67, sh_68, sh_69, sh_70, sh_71, sh_72, sh_73, sh_74, sh_75, sh_76, sh_77, sh_78, sh_79, sh_80, sh_81, sh_82, mul_nI_2, mul_nI_3, mul_nI_4, mul_nI_6, mul_nI_8, mul_nI_10, mul_nI_11, mul_nI_12, mul_nI_27, mul_nI_36, mul_nI_242, add_nI_0, dda_nI_0, add_nI_1, dda_nI_1, add_nI_2, dda_nI_2, add_nI_3, dda_nI_3, add_nI_4, dda_nI_4, add_nI_5, dda_nI_5, add_nI_6, dda_nI_6, add_nI_8, dda_nI_8, add_nI_12, dda_nI_12, add_nI_64, dda_nI_64, add_nI_128, dda_nI_128, add_nI_192, dda_nI_192, add_nI_228, dda_nI_228, add_nI_234, dda_nI_234, add_nI_242, dda_nI_242, sub_nI_1, sub_nI_2, sub_nI_20, sub_nI_242, inb_0, ixl_0, inb_1, ixl_1, inb_2, ixl_2, inb_3, ixl_3, inb_4, ixl_4, inb_5, ixl_5, inb_6, ixl_6, inb_7, ixl_7, inb_8, ixl_8, inb_9, ixl_9, inb_10, ixl_10, inb_11, ixl_11, nI_add, pk_mul, ixn, inbn, le_l0, l0_le, lt_l0, l0_lt, eq_l0, l0_eq, le_l1, l1_le, lt_l1, l1_lt, eq_l1, l1_eq, le_l2, l2_le, lt_l2, l2_lt, eq_l2, l2_eq, le_l3, l3_le, lt_l3, l3_lt, eq_l3, l3_eq, le_l4, l4_le, lt_l4, l4_lt, eq_l4, l4_eq, le_l5, l5_le, lt_l5, l5_lt, eq_l5, l5_eq, le_l6, l6_le, lt_l6, l6_lt, eq_l6, l6_eq, le_l8, l8_le, lt_l8, l8_lt, eq_l8, l8_eq, le_l9, l9_le, lt_l9, l9_lt, eq_l9, l9_eq, le_l10, l10_le, lt_l10, l10_lt, eq_l10, l10_eq, le_l11, l11_le, lt_l11, l11_lt, eq_l11, l11_eq, le_l12, l12_le, lt_l12, l12_lt, eq_l12, l12_eq, le_l14, l14_le, lt_l14, l14_lt, eq_l14, l14_eq, le_l16, l16_le, lt_l16, l16_lt, eq_l16, l16_eq, le_l20, l20_le, lt_l20, l20_lt, eq_l20, l20_eq, le_l24, l24_le, lt_l24, l24_lt, eq_l24, l24_eq, le_l64, l64_le, lt_l64, l64_lt, eq_l64, l64_eq, le_l72, l72_le, lt_l72, l72_lt, eq_l72, l72_eq, le_l242, l242_le, lt_l242, l242_lt, eq_l242, l242_eq, le_l1180, l1180_le, lt_l1180, l1180_lt, eq_l1180, l1180_eq, le_l1200, l1200_le, lt_l1200, l1200_lt, eq_l1200, l1200_eq, le_l3388, l3388_le, lt_l3388, l3388_lt, eq_l3388, l3388_eq, le_l200000, l200000_le, lt_l200000, l200000_lt, eq_l200000, l200000_eq, le_l1000000, l1000000_le, lt_l1000000, l1000000_lt, eq_l1000000, l1000000_eq, le_nI, lt_nI, eq_nI, decide_true, decide_eq_true_eq, Bool.and_true, Bool.true_and, and_true, true_and, if_true, if_false, ite_true, ite_false, decide_false, ne_eq, not_false_eq_true, not_true_eq_false, reduceCtorEq, Nat.reduceLT, Nat.reduceEqDiff, Nat.reduceMul, Nat.reduceAdd]
    rw [w1]
    unfold DX8_goesFirst_251
    refine ok_if.mpr ⟨fun c => ?_, fun c => ?_⟩
    · have c0 : cN (fun k => !isF kd k) fl (n - fl) = 0 := by
        rw [le_l0 (by omega)] at c
        omega
      have hall : ∀ k, fl ≤ k → k < n → isF kd k = true := fun k a b => by
        have := cN_zero _ _ c0 k a (by omega)
        simpa using this
      rw [prF, if_neg hnlt, if_pos c0]
      refine ok_if.mpr ⟨fun c2 => ?_, fun c2 => ?_⟩
      · have z2 : cN (isF kd) fl (n - fl) = 0 := by
          rw [eq_l0 (by omega)] at c2
          exact c2
        have hfn' : fl = n := by
          rcases Nat.lt_or_ge fl n with q | q
          · have q1 := hall fl (Nat.le_refl _) q
            have q2 := cN_zero _ _ z2 fl (Nat.le_refl _) (by omega)
            rw [q1] at q2
            cases q2
          · omega
        refine ok_some.mpr ⟨ft, (fun k => if k < fl then 5 else by1 kd k, fun k => if fsB kd (bv5 fl) k then vl k else wh k, fun _ => 0, 1, 0), ⟨fun k hk => ⟨g74w k hk, (hM.2.2.1 k hk).2.2.2.2.2.1, ?_⟩, ?_, hM.2.2.2.2⟩, ⟨fun k a b => by omega, ?_, rfl⟩, fun k hk => ⟨?_, wl k hk, rfl⟩⟩
        · rw [(hM.2.2.1 k hk).2.2.2.2.2.2]; exact l_0
        · rw [fw.J 51 47 rfl]; exact hu
        · show (1 : Int) = if fl = n then 1 else _
          rw [if_pos hfn']
        · show (if k < fl then 5 else by1 kd k) = 5
          rw [if_pos hk]
      · have f2 : Fr (fF [(51, 47)]) (fA []) ω (pJ ω 51 47 y) := Fr.rf.pJ 51 47 _ rfl
        have hF2 := f2.fin hFw (by decide)
        have hlt : fl < n := by
          rcases Nat.lt_or_ge fl n with q | q
          · exact q
          · exact absurd (show nI (cN (isF kd) fl (n - fl)) = 0 by rw [show n - fl = 0 by omega]; rfl) c2
        have hb5 : ∀ k, k < n → (fsB kd (bv5 fl) k = true ↔ (aI (pJ ω 51 47 y) 74 k = 1 ∨ aI (pJ ω 51 47 y) 74 k = 2)) := fun k hk => by
          show _ ↔ (aI ω 74 k = 1 ∨ aI ω 74 k = 2)
          rw [g74w k hk, fs5]
          unfold by1 isF
          by_cases q : k < fl
          · simp [q]; omega
          · by_cases q1 : kd k = 1
            · simp [q, q1]; omega
            · by_cases q2 : kd k = 2
              · simp [q, q2]; omega
              · simp [q, q1, q2]
        have h277 := m_gf277 (B := fsB kd (bv5 fl)) hF2 hn hp2 epw (fun k hk => ⟨hb5 k hk, (hM.2.2.1 k hk).2.2.1, (hB k hk).2⟩) n 0 FU _ (by omega) (by unfold FU; omega) Fr.rf (fun k hk => by omega)
        simp (disch := first | assumption | omega) only [ok_chk, ok_let, ckO, ckI, ckZ, ckJ, ckG, ckR, ckL, ckV, gI_pI, gJ_pI, gR_pI, aI_pI, aJ_pI, aG_pI, gN_pI, gF_pI, gI_pJ, gJ_pJ, gR_pJ, aI_pJ, aJ_pJ, aG_pJ, gN_pJ, gF_pJ, gI_pR, gJ_pR, gR_pR, aI_pR, aJ_pR, aG_pR, gN_pR, gF_pR, gI_wI, gJ_wI, gR_wI, aI_wI, aJ_wI, aG_wI, gN_wI, gF_wI, gI_wJ, gJ_wJ, gR_wJ, aI_wJ, aJ_wJ, aG_wJ, gN_wJ, gF_wJ, gI_wG, gJ_wG, gR_wG, aI_wG, aJ_wG, aG_wG, gN_wG, gF_wG, fr_25_0, fr_26_0, fr_26_1, fr_26_2, fr_26_3, fr_26_4, fr_26_5, fr_26_6, fr_26_7, fr_26_8, fr_36_6, fr_36_7, fr_36_8, fr_36_9, fr_36_10, fr_36_11, fr_36_12, fr_36_13, fr_36_14, fr_46_0, fr_46_1, fr_1_0, fr_1_4, fr_1_5, fr_1_6, fr_1_7, fr_1_8, fr_1_9, fr_51_1, fr_51_12, fr_51_13, fr_51_14, fr_51_15, fr_51_16, fr_51_17, fr_51_18, fr_51_19, fr_51_20, fr_51_21, fr_51_34, fr_51_35, fr_51_36, fr_51_37, fr_51_38, fr_51_39, fr_51_40, fr_51_41, fr_51_42, fr_51_43, fr_51_44, fr_51_45, fr_51_46, fr_51_51, fr_51_52, fr_51_53, fr_51_54, fr_51_55, fr_51_56, fr_b_10, fr_b_11, fr_b_12, fr_b_13, fr_b_14, fr_b_15, fr_b_16, fr_b_17, fr_b_18, fr_b_19, fin_pI, fin_pJ, fin_wI, fin_wJ, fin_wG, sh_b_1, lt_b_1, sh_b_2, lt_b_2, sh_b_3, lt_b_3, sh_b_4, lt_b_4, sh_b_5, lt_b_5, sh_b_6, lt_b_6, sh_b_7, lt_b_7, sh_b_8, lt_b_8, sh_b_9, lt_b_9, sh_b_10, lt_b_10, sh_b, lt_b, nz_b, finN, sh_1, sh_2, sh_25, sh_26, sh_27, sh_28, sh_29, sh_30, sh_31, sh_32, sh_33, sh_34, sh_35, sh_36, sh_37, sh_38, sh_39, sh_40, sh_41, sh_42, sh_43, sh_44, sh_45, sh_46, sh_47, sh_48, sh_49, sh_50, sh_51, sh_52, sh_53, sh_54, sh_55, sh_56, sh_57, sh_58, sh_59, sh_60, sh_61, sh_62, sh_63, sh_64, sh_65, sh_66, sh_67, sh_68, sh_69, sh_70, sh_71, sh_72, sh_73, sh_74, sh_75, sh_76, sh_77, sh_78, sh_79, sh_80, sh_81, sh_82, mul_nI_2, mul_nI_3, mul_nI_4, mul_nI_6, mul_nI_8, mul_nI_10, mul_nI_11, mul_nI_12, mul_nI_27, mul_nI_36, mul_nI_242, add_nI_0, dda_nI_0, add_nI_1, dda_nI_1, add_nI_2, dda_nI_2, add_nI_3, dda_nI_3, add_nI_4, dda_nI_4, add_nI_5, dda_nI_5, add_nI_6, dda_nI_6, add_nI_8, dda_nI_8, add_nI_12, dda_nI_12, add_nI_64, dda_nI_64, add_nI_128, dda_nI_128, add_nI_192, dda_nI_192, add_nI_228, dda_nI_228, add_nI_234, dda_nI_234, add_nI_242, dda_nI_242, sub_nI_1, sub_nI_2, sub_nI_20, sub_nI_242, inb_0, ixl_0, inb_1, ixl_1, inb_2, ixl_2, inb_3, ixl_3, inb_4, ixl_4, inb_5, ixl_5, inb_6, ixl_6, inb_7, ixl_7, inb_8, ixl_8, inb_9, ixl_9, inb_10, ixl_10, inb_11, ixl_11, nI_add, pk_mul, ixn, inbn, le_l0, l0_le, lt_l0, l0_lt, eq_l0, l0_eq, le_l1, l1_le, lt_l1, l1_lt, eq_l1, l1_eq, le_l2, l2_le, lt_l2, l2_lt, eq_l2, l2_eq, le_l3, l3_le, lt_l3, l3_lt, eq_l3, l3_eq, le_l4, l4_le, lt_l4, l4_lt, eq_l4, l4_eq, le_l5, l5_le, lt_l5, l5_lt, eq_l5, l5_eq, le_l6, l6_le, lt_l6, l6_lt, eq_l6, l6_eq, le_l8, l8_le, lt_l8, l8_lt, eq_l8, l8_eq, le_l9, l9_le, lt_l9, l9_lt, eq_l9, l9_eq, le_l10, l10_le, lt_l10, l10_lt, eq_l10, l10_eq, le_l11, l11_le, lt_l11, l11_lt, eq_l11, l11_eq, le_l12, l12_le, lt_l12, l12_lt, eq_l12, l12_eq, le_l14, l14_le, lt_l14, l14_lt, eq_l14, l14_eq, le_l16, l16_le, lt_l16, l16_lt, eq_l16, l16_eq, le_l20, l20_le, lt_l20, l20_lt, eq_l20, l20_eq, le_l24, l24_le, lt_l24, l24_lt, eq_l24, l24_eq, le_l64, l64_le, lt_l64, l64_lt, eq_l64, l64_eq, le_l72, l72_le, lt_l72, l72_lt, eq_l72, l72_eq, le_l242, l242_le, lt_l242, l242_lt, eq_l242, l242_eq, le_l1180, l1180_le, lt_l1180, l1180_lt, eq_l1180, l1180_eq, le_l1200, l1200_le, lt_l1200, l1200_lt, eq_l1200, l1200_eq, le_l3388, l3388_le, lt_l3388, l3388_lt, eq_l3388, l3388_eq, le_l200000, l200000_le, lt_l200000, l200000_lt, eq_l200000, l200000_eq, le_l1000000, l1000000_le, lt_l1000000, l1000000_lt, eq_l1000000, l1000000_eq, le_nI, lt_nI, eq_nI, decide_true, decide_eq_true_eq, Bool.and_true, Bool.true_and, and_true, true_and, if_true, if_false, ite_true, ite_false, decide_false, ne_eq, not_false_eq_true, not_true_eq_false, reduceCtorEq, Nat.reduceLT, Nat.reduceEqDiff, Nat.reduceMul, Nat.reduceAdd]
        refine h277.mono (fun _ ρ hq => ⟨(ft.trans (f2.up rfl rfl)).trans (hq.1.up rfl rfl), (fun k => if k < fl then 5 else by1 kd k, fun k => if fsB kd (bv5 fl) k then vl k else wh k, fun k => if fsB kd (bv5 fl) k then (pool - fiS kd vl fl n) * fc k else 0, sI fc fl (n - fl), 0), ⟨fun k hk => ⟨(hq.1.aI 74 rfl k).trans (g74w k hk), ?_, hq.2 k hk⟩, ?_, (hq.1.I 51 49 rfl).trans hM.2.2.2.2⟩, ⟨fun k a b => ⟨?_, wf k a b, ?_⟩, ?_, rfl⟩, fun k hk => ⟨?_, wl k hk, ?_⟩⟩)
        · rw [hq.1.aJ 69 rfl k]; exact (hM.2.2.1 k hk).2.2.2.2.2.1
        · rw [hq.1.J 51 47 rfl, gJ_pJ, if_pos ⟨rfl, rfl⟩, w3, l_0]
          have := sI_shift (f := fun k => if fsB kd (bv5 fl) k then fc k else 0) hfl (fun k hk => by rw [fs5]; simp; omega)
          rw [Nat.sub_zero] at this
          rw [this, sI_congr (g := fc) (n - fl) fl (fun k a b => by rw [fs5, hall k a (by omega)]; simp [a])]
          show 0 + sI fc fl (n - fl) = sI fc fl (n - fl)
          omega
        · show (if k < fl then 5 else by1 kd k) = by1 kd k
          rw [if_neg (by omega)]
        · show (if fsB kd (bv5 fl) k then (pool - fiS kd vl fl n) * fc k else 0) = if isF kd k then (pool - fiS kd vl fl n) * fc k else 0
          rw [fs5]
          simp [a]
        · show sI fc fl (n - fl) = if fl = n then 1 else sI fc fl (n - fl)
          rw [if_neg (by omega)]
        · show (if k < fl then 5 else by1 kd k) = 5
          rw [if_pos hk]
        · show (if fsB kd (bv5 fl) k then (pool - fiS kd vl fl n) * fc k else 0) = 0
          rw [fs5]
          simp
          omega
    · have c0 : ¬ cN (fun k => !isF kd k) fl (n - fl) = 0 := fun z => c (by rw [z]; decide)
      rw [prF, if_neg hnlt, if_neg c0]
      have h5 : ∀ k, k < fl → (fun k => if k < fl then (5 : Int32) else by1 kd k) k = 5 := fun k hk => if_pos hk
      have ho : ∃ k, k < n ∧ (fun k => if k < fl then (5 : Int32) else by1 kd k) k = 0 := by
        apply Classical.byContradiction
        intro z
        refine c0 ?_
        have q : cN (fun k => !isF kd k) fl (n - fl) = cN (fun _ => false) fl (n - fl) := cN_congr _ _ (fun k a b => by
          cases hk : isF kd k with
          | true => rfl
          | false => exact absurd ⟨k, by omega, by show (if k < fl then (5 : Int32) else by1 kd k) = 0; rw [if_neg (by omega)]; unfold by1; rw [hk]; rfl⟩ z)
        rw [q]
        exact (gv_zero (r := fun _ => 0)).1
      have hl := m_least hB 8 FU 0 ω _ _ _ (Nat.le_trans (cN_le n 0) hn) (by unfold FU; omega) ho hM hp2
      rw [ls_shift hfl 8 _ _ _ _ h5] at hl
      unfold DX8_leasts
      simp (disch := first | assumption | omega) only [ok_chk, ok_let, ckO, ckI, ckZ, ckJ, ckG, ckR, ckL, ckV, gI_pI, gJ_pI, gR_pI, aI_pI, aJ_pI, aG_pI, gN_pI, gF_pI, gI_pJ, gJ_pJ, gR_pJ, aI_pJ, aJ_pJ, aG_pJ, gN_pJ, gF_pJ, gI_pR, gJ_pR, gR_pR, aI_pR, aJ_pR, aG_pR, gN_pR, gF_pR, gI_wI, gJ_wI, gR_wI, aI_wI, aJ_wI, aG_wI, gN_wI, gF_wI, gI_wJ, gJ_wJ, gR_wJ, aI_wJ, aJ_wJ, aG_wJ, gN_wJ, gF_wJ, gI_wG, gJ_wG, gR_wG, aI_wG, aJ_wG, aG_wG, gN_wG, gF_wG, fr_25_0, fr_26_0, fr_26_1, fr_26_2, fr_26_3, fr_26_4, fr_26_5, fr_26_6, fr_26_7, fr_26_8, fr_36_6, fr_36_7, fr_36_8, fr_36_9, fr_36_10, fr_36_11, fr_36_12, fr_36_13, fr_36_14, fr_46_0, fr_46_1, fr_1_0, fr_1_4, fr_1_5, fr_1_6, fr_1_7, fr_1_8, fr_1_9, fr_51_1, fr_51_12, fr_51_13, fr_51_14, fr_51_15, fr_51_16, fr_51_17, fr_51_18, fr_51_19, fr_51_20, fr_51_21, fr_51_34, fr_51_35, fr_51_36, fr_51_37, fr_51_38, fr_51_39, fr_51_40, fr_51_41, fr_51_42, fr_51_43, fr_51_44, fr_51_45, fr_51_46, fr_51_51, fr_51_52, fr_51_53, fr_51_54, fr_51_55, fr_51_56, fr_b_10, fr_b_11, fr_b_12, fr_b_13, fr_b_14, fr_b_15, fr_b_16, fr_b_17, fr_b_18, fr_b_19, fin_pI, fin_pJ, fin_wI, fin_wJ, fin_wG, sh_b_1, lt_b_1, sh_b_2, lt_b_2, sh_b_3, lt_b_3, sh_b_4, lt_b_4, sh_b_5, lt_b_5, sh_b_6, lt_b_6, sh_b_7, lt_b_7, sh_b_8, lt_b_8, sh_b_9, lt_b_9, sh_b_10, lt_b_10, sh_b, lt_b, nz_b, finN, sh_1, sh_2, sh_25, sh_26, sh_27, sh_28, sh_29, sh_30, sh_31, sh_32, sh_33, sh_34, sh_35, sh_36, sh_37, sh_38, sh_39, sh_40, sh_41, sh_42, sh_43, sh_44, sh_45, sh_46, sh_47, sh_48, sh_49, sh_50, sh_51, sh_52, sh_53, sh_54, sh_55, sh_56, sh_57, sh_58, sh_59, sh_60, sh_61, sh_62, sh_63, sh_64, sh_65, sh_66, sh_67, sh_68, sh_69, sh_70, sh_71, sh_72, sh_73, sh_74, sh_75, sh_76, sh_77, sh_78, sh_79, sh_80, sh_81, sh_82, mul_nI_2, mul_nI_3, mul_nI_4, mul_nI_6, mul_nI_8, mul_nI_10, mul_nI_11, mul_nI_12, mul_nI_27, mul_nI_36, mul_nI_242, add_nI_0, dda_nI_0, add_nI_1, dda_nI_1, add_nI_2, dda_nI_2, add_nI_3, dda_nI_3, add_nI_4, dda_nI_4, add_nI_5, dda_nI_5, add_nI_6, dda_nI_6, add_nI_8, dda_nI_8, add_nI_12, dda_nI_12, add_nI_64, dda_nI_64, add_nI_128, dda_nI_128, add_nI_192, dda_nI_192, add_nI_228, dda_nI_228, add_nI_234, dda_nI_234, add_nI_242, dda_nI_242, sub_nI_1, sub_nI_2, sub_nI_20, sub_nI_242, inb_0, ixl_0, inb_1, ixl_1, inb_2, ixl_2, inb_3, ixl_3, inb_4, ixl_4, inb_5, ixl_5, inb_6, ixl_6, inb_7, ixl_7, inb_8, ixl_8, inb_9, ixl_9, inb_10, ixl_10, inb_11, ixl_11, nI_add, pk_mul, ixn, inbn, le_l0, l0_le, lt_l0, l0_lt, eq_l0, l0_eq, le_l1, l1_le, lt_l1, l1_lt, eq_l1, l1_eq, le_l2, l2_le, lt_l2, l2_lt, eq_l2, l2_eq, le_l3, l3_le, lt_l3, l3_lt, eq_l3, l3_eq, le_l4, l4_le, lt_l4, l4_lt, eq_l4, l4_eq, le_l5, l5_le, lt_l5, l5_lt, eq_l5, l5_eq, le_l6, l6_le, lt_l6, l6_lt, eq_l6, l6_eq, le_l8, l8_le, lt_l8, l8_lt, eq_l8, l8_eq, le_l9, l9_le, lt_l9, l9_lt, eq_l9, l9_eq, le_l10, l10_le, lt_l10, l10_lt, eq_l10, l10_eq, le_l11, l11_le, lt_l11, l11_lt, eq_l11, l11_eq, le_l12, l12_le, lt_l12, l12_lt, eq_l12, l12_eq, le_l14, l14_le, lt_l14, l14_lt, eq_l14, l14_eq, le_l16, l16_le, lt_l16, l16_lt, eq_l16, l16_eq, le_l20, l20_le, lt_l20, l20_lt, eq_l20, l20_eq, le_l24, l24_le, lt_l24, l24_lt, eq_l24, l24_eq, le_l64, l64_le, lt_l64, l64_lt, eq_l64, l64_eq, le_l72, l72_le, lt_l72, l72_lt, eq_l72, l72_eq, le_l242, l242_le, lt_l242, l242_lt, eq_l242, l242_eq, le_l1180, l1180_le, lt_l1180, l1180_lt, eq_l1180, l1180_eq, le_l1200, l1200_le, lt_l1200, l1200_lt, eq_l1200, l1200_eq, le_l3388, l3388_le, lt_l3388, l3388_lt, eq_l3388, l3388_eq, le_l200000, l200000_le, lt_l200000, l200000_lt, eq_l200000, l200000_eq, le_l1000000, l1000000_le, lt_l1000000, l1000000_lt, eq_l1000000, l1000000_eq, le_nI, lt_nI, eq_nI, decide_true, decide_eq_true_eq, Bool.and_true, Bool.true_and, and_true, true_and, if_true, if_false, ite_true, ite_false, decide_false, ne_eq, not_false_eq_true, not_true_eq_false, reduceCtorEq, Nat.reduceLT, Nat.reduceEqDiff, Nat.reduceMul, Nat.reduceAdd]
      refine ok_bnd hl (fun _ ρ hq => ok_some.mpr ⟨ft.trans hq.1, _, hq.2, ls_congr hfl (fun _ _ _ => rfl) (fun _ _ _ => rfl) (fun _ _ _ => rfl) 8 _ _ _ _ _ _ (fun k a b => if_neg (by omega)) wf, fun k hk => ?_⟩)
      obtain ⟨p1, p2, p3⟩ := ls_5 (kd := kd) (vl := vl) (fc := fc) (n := n) 8 _ (fun k => if fsB kd (bv5 fl) k then vl k else wh k) (pool - fiS kd vl fl n) 0 h5 k hk
      exact ⟨p1, p2.trans (wl k hk), p3⟩
  unfold DX8_goesFirst_82
  simp (disch := first | assumption | omega) only [ok_chk, ok_let, ckO, ckI, ckZ, ckJ, ckG, ckR, ckL, ckV, gI_pI, gJ_pI, gR_pI, aI_pI, aJ_pI, aG_pI, gN_pI, gF_pI, gI_pJ, gJ_pJ, gR_pJ, aI_pJ, aJ_pJ, aG_pJ, gN_pJ, gF_pJ, gI_pR, gJ_pR, gR_pR, aI_pR, aJ_pR, aG_pR, gN_pR, gF_pR, gI_wI, gJ_wI, gR_wI, aI_wI, aJ_wI, aG_wI, gN_wI, gF_wI, gI_wJ, gJ_wJ, gR_wJ, aI_wJ, aJ_wJ, aG_wJ, gN_wJ, gF_wJ, gI_wG, gJ_wG, gR_wG, aI_wG, aJ_wG, aG_wG, gN_wG, gF_wG, fr_25_0, fr_26_0, fr_26_1, fr_26_2, fr_26_3, fr_26_4, fr_26_5, fr_26_6, fr_26_7, fr_26_8, fr_36_6, fr_36_7, fr_36_8, fr_36_9, fr_36_10, fr_36_11, fr_36_12, fr_36_13, fr_36_14, fr_46_0, fr_46_1, fr_1_0, fr_1_4, fr_1_5, fr_1_6, fr_1_7, fr_1_8, fr_1_9, fr_51_1, fr_51_12, fr_51_13, fr_51_14, fr_51_15, fr_51_16, fr_51_17, fr_51_18, fr_51_19, fr_51_20, fr_51_21, fr_51_34, fr_51_35, fr_51_36, fr_51_37, fr_51_38, fr_51_39, fr_51_40, fr_51_41, fr_51_42, fr_51_43, fr_51_44, fr_51_45, fr_51_46, fr_51_51, fr_51_52, fr_51_53, fr_51_54, fr_51_55, fr_51_56, fr_b_10, fr_b_11, fr_b_12, fr_b_13, fr_b_14, fr_b_15, fr_b_16, fr_b_17, fr_b_18, fr_b_19, fin_pI, fin_pJ, fin_wI, fin_wJ, fin_wG, sh_b_1, lt_b_1, sh_b_2, lt_b_2, sh_b_3, lt_b_3, sh_b_4, lt_b_4, sh_b_5, lt_b_5, sh_b_6, lt_b_6, sh_b_7, lt_b_7, sh_b_8, lt_b_8, sh_b_9, lt_b_9, sh_b_10, lt_b_10, sh_b, lt_b, nz_b, finN, sh_1, sh_2, sh_25, sh_26, sh_27, sh_28, sh_29, sh_30, sh_31, sh_32, sh_33, sh_34, sh_35, sh_36, sh_37, sh_38, sh_39, sh_40, sh_41, sh_42, sh_43, sh_44, sh_45, sh_46, sh_47, sh_48, sh_49, sh_50, sh_51, sh_52, sh_53, sh_54, sh_55, sh_56, sh_57, sh_58, sh_59, sh_60, sh_61, sh_62, sh_63, sh_64, sh_65, sh_66, sh_67, sh_68, sh_69, sh_70, sh_71, sh_72, sh_73, sh_74, sh_75, sh_76, sh_77, sh_78, sh_79, sh_80, sh_81, sh_82, mul_nI_2, mul_nI_3, mul_nI_4, mul_nI_6, mul_nI_8, mul_nI_10, mul_nI_11, mul_nI_12, mul_nI_27, mul_nI_36, mul_nI_242, add_nI_0, dda_nI_0, add_nI_1, dda_nI_1, add_nI_2, dda_nI_2, add_nI_3, dda_nI_3, add_nI_4, dda_nI_4, add_nI_5, dda_nI_5, add_nI_6, dda_nI_6, add_nI_8, dda_nI_8, add_nI_12, dda_nI_12, add_nI_64, dda_nI_64, add_nI_128, dda_nI_128, add_nI_192, dda_nI_192, add_nI_228, dda_nI_228, add_nI_234, dda_nI_234, add_nI_242, dda_nI_242, sub_nI_1, sub_nI_2, sub_nI_20, sub_nI_242, inb_0, ixl_0, inb_1, ixl_1, inb_2, ixl_2, inb_3, ixl_3, inb_4, ixl_4, inb_5, ixl_5, inb_6, ixl_6, inb_7, ixl_7, inb_8, ixl_8, inb_9, ixl_9, inb_10, ixl_10, inb_11, ixl_11, nI_add, pk_mul, ixn, inbn, le_l0, l0_le, lt_l0, l0_lt, eq_l0, l0_eq, le_l1, l1_le, lt_l1, l1_lt, eq_l1, l1_eq, le_l2, l2_le, lt_l2, l2_lt, eq_l2, l2_eq, le_l3, l3_le, lt_l3, l3_lt, eq_l3, l3_eq, le_l4, l4_le, lt_l4, l4_lt, eq_l4, l4_eq, le_l5, l5_le, lt_l5, l5_lt, eq_l5, l5_eq, le_l6, l6_le, lt_l6, l6_lt, eq_l6, l6_eq, le_l8, l8_le, lt_l8, l8_lt, eq_l8, l8_eq, le_l9, l9_le, lt_l9, l9_lt, eq_l9, l9_eq, le_l10, l10_le, lt_l10, l10_lt, eq_l10, l10_eq, le_l11, l11_le, lt_l11, l11_lt, eq_l11, l11_eq, le_l12, l12_le, lt_l12, l12_lt, eq_l12, l12_eq, le_l14, l14_le, lt_l14, l14_lt, eq_l14, l14_eq, le_l16, l16_le, lt_l16, l16_lt, eq_l16, l16_eq, le_l20, l20_le, lt_l20, l20_lt, eq_l20, l20_eq, le_l24, l24_le, lt_l24, l24_lt, eq_l24, l24_eq, le_l64, l64_le, lt_l64, l64_lt, eq_l64, l64_eq, le_l72, l72_le, lt_l72, l72_lt, eq_l72, l72_eq, le_l242, l242_le, lt_l242, l242_lt, eq_l242, l242_eq, le_l1180, l1180_le, lt_l1180, l1180_lt, eq_l1180, l1180_eq, le_l1200, l1200_le, lt_l1200, l1200_lt, eq_l1200, l1200_eq, le_l3388, l3388_le, lt_l3388, l3388_lt, eq_l3388, l3388_eq, le_l200000, l200000_le, lt_l200000, l200000_lt, eq_l200000, l200000_eq, le_l1000000, l1000000_le, lt_l1000000, l1000000_lt, eq_l1000000, l1000000_eq, le_nI, lt_nI, eq_nI, decide_true, decide_eq_true_eq, Bool.and_true, Bool.true_and, and_true, true_and, if_true, if_false, ite_true, ite_false, decide_false, ne_eq, not_false_eq_true, not_true_eq_false, reduceCtorEq, Nat.reduceLT, Nat.reduceEqDiff, Nat.reduceMul, Nat.reduceAdd]
  refine ok_if.mpr ⟨fun c => ?_, fun c => ?_⟩
  · refine key ?_
    have : fiS kd vl fl n = 0 := sI_zero _ _ (fun k a b => by
      have := cN_zero _ _ (show cN (isF kd) fl (n - fl) = 0 by omega) k a b
      rw [this]
      rfl)
    omega
  · simp only [chk_true]
    refine ok_if.mpr ⟨fun c2 => key (hle.mp c2), fun c2 => ?_⟩
    have hlt : pool < fiS kd vl fl n := Int.not_le.mp (fun z => c2 (hle.mpr z))
    obtain ⟨ω, w1, w2, w3⟩ := m_gf99 (s := x) hWu hB hp n 0 FU υ (by omega) (by unfold FU; omega) Fr.rf (fun k hk => by omega)
    rw [show nI 0 = (0 : Int32) from rfl] at w1
    rw [w1]
    have hFw := w2.fin hFu (by decide)
    unfold DX8_goesFirst_157
    simp (disch := first | assumption | omega) only [ok_chk, ok_let, ok_some, ckO, ckI, ckZ, ckJ, ckG, ckR, ckL, ckV, gI_pI, gJ_pI, gR_pI, aI_pI, aJ_pI, aG_pI, gN_pI, gF_pI, gI_pJ, gJ_pJ, gR_pJ, aI_pJ, aJ_pJ, aG_pJ, gN_pJ, gF_pJ, gI_pR, gJ_pR, gR_pR, aI_pR, aJ_pR, aG_pR, gN_pR, gF_pR, gI_wI, gJ_wI, gR_wI, aI_wI, aJ_wI, aG_wI, gN_wI, gF_wI, gI_wJ, gJ_wJ, gR_wJ, aI_wJ, aJ_wJ, aG_wJ, gN_wJ, gF_wJ, gI_wG, gJ_wG, gR_wG, aI_wG, aJ_wG, aG_wG, gN_wG, gF_wG, fr_25_0, fr_26_0, fr_26_1, fr_26_2, fr_26_3, fr_26_4, fr_26_5, fr_26_6, fr_26_7, fr_26_8, fr_36_6, fr_36_7, fr_36_8, fr_36_9, fr_36_10, fr_36_11, fr_36_12, fr_36_13, fr_36_14, fr_46_0, fr_46_1, fr_1_0, fr_1_4, fr_1_5, fr_1_6, fr_1_7, fr_1_8, fr_1_9, fr_51_1, fr_51_12, fr_51_13, fr_51_14, fr_51_15, fr_51_16, fr_51_17, fr_51_18, fr_51_19, fr_51_20, fr_51_21, fr_51_34, fr_51_35, fr_51_36, fr_51_37, fr_51_38, fr_51_39, fr_51_40, fr_51_41, fr_51_42, fr_51_43, fr_51_44, fr_51_45, fr_51_46, fr_51_51, fr_51_52, fr_51_53, fr_51_54, fr_51_55, fr_51_56, fr_b_10, fr_b_11, fr_b_12, fr_b_13, fr_b_14, fr_b_15, fr_b_16, fr_b_17, fr_b_18, fr_b_19, fin_pI, fin_pJ, fin_wI, fin_wJ, fin_wG, sh_b_1, lt_b_1, sh_b_2, lt_b_2, sh_b_3, lt_b_3, sh_b_4, lt_b_4, sh_b_5, lt_b_5, sh_b_6, lt_b_6, sh_b_7, lt_b_7, sh_b_8, lt_b_8, sh_b_9, lt_b_9, sh_b_10, lt_b_10, sh_b, lt_b, nz_b, finN, sh_1, sh_2, sh_25, sh_26, sh_27, sh_28, sh_29, sh_30, sh_31, sh_32, sh_33, sh_34, sh_35, sh_36, sh_37, sh_38, sh_39, sh_40, sh_41, sh_42, sh_43, sh_44, sh_45, sh_46, sh_47, sh_48, sh_49, sh_50, sh_51, sh_52, sh_53, sh_54, sh_55, sh_56, sh_57, sh_58, sh_59, sh_60, sh_61, sh_62, sh_63, sh_64, sh_65, sh_66, sh_67, sh_68, sh_69, sh_70, sh_71, sh_72, sh_73, sh_74, sh_75, sh_76, sh_77, sh_78, sh_79, sh_80, sh_81, sh_82, mul_nI_2, mul_nI_3, mul_nI_4, mul_nI_6, mul_nI_8, mul_nI_10, mul_nI_11, mul_nI_12, mul_nI_27, mul_nI_36, mul_nI_242, add_nI_0, dda_nI_0, add_nI_1, dda_nI_1, add_nI_2, dda_nI_2, add_nI_3, dda_nI_3, add_nI_4, dda_nI_4, add_nI_5, dda_nI_5, add_nI_6, dda_nI_6, add_nI_8, dda_nI_8, add_nI_12, dda_nI_12, add_nI_64, dda_nI_64, add_nI_128, dda_nI_128, add_nI_192, dda_nI_192, add_nI_228, dda_nI_228, add_nI_234, dda_nI_234, add_nI_242, dda_nI_242, sub_nI_1, sub_nI_2, sub_nI_20, sub_nI_242, inb_0, ixl_0, inb_1, ixl_1, inb_2, ixl_2, inb_3, ixl_3, inb_4, ixl_4, inb_5, ixl_5, inb_6, ixl_6, inb_7, ixl_7, inb_8, ixl_8, inb_9, ixl_9, inb_10, ixl_10, inb_11, ixl_11, nI_add, pk_mul, ixn, inbn, le_l0, l0_le, lt_l0, l0_lt, eq_l0, l0_eq, le_l1, l1_le, lt_l1, l1_lt, eq_l1, l1_eq, le_l2, l2_le, lt_l2, l2_lt, eq_l2, l2_eq, le_l3, l3_le, lt_l3, l3_lt, eq_l3, l3_eq, le_l4, l4_le, lt_l4, l4_lt, eq_l4, l4_eq, le_l5, l5_le, lt_l5, l5_lt, eq_l5, l5_eq, le_l6, l6_le, lt_l6, l6_lt, eq_l6, l6_eq, le_l8, l8_le, lt_l8, l8_lt, eq_l8, l8_eq, le_l9, l9_le, lt_l9, l9_lt, eq_l9, l9_eq, le_l10, l10_le, lt_l10, l10_lt, eq_l10, l10_eq, le_l11, l11_le, lt_l11, l11_lt, eq_l11, l11_eq, le_l12, l12_le, lt_l12, l12_lt, eq_l12, l12_eq, le_l14, l14_le, lt_l14, l14_lt, eq_l14, l14_eq, le_l16, l16_le, lt_l16, l16_lt, eq_l16, l16_eq, le_l20, l20_le, lt_l20, l20_lt, eq_l20, l20_eq, le_l24, l24_le, lt_l24, l24_lt, eq_l24, l24_eq, le_l64, l64_le, lt_l64, l64_lt, eq_l64, l64_eq, le_l72, l72_le, lt_l72, l72_lt, eq_l72, l72_eq, le_l242, l242_le, lt_l242, l242_lt, eq_l242, l242_eq, le_l1180, l1180_le, lt_l1180, l1180_lt, eq_l1180, l1180_eq, le_l1200, l1200_le, lt_l1200, l1200_lt, eq_l1200, l1200_eq, le_l3388, l3388_le, lt_l3388, l3388_lt, eq_l3388, l3388_eq, le_l200000, l200000_le, lt_l200000, l200000_lt, eq_l200000, l200000_eq, le_l1000000, l1000000_le, lt_l1000000, l1000000_lt, eq_l1000000, l1000000_eq, le_nI, lt_nI, eq_nI, decide_true, decide_eq_true_eq, Bool.and_true, Bool.true_and, and_true, true_and, if_true, if_false, ite_true, ite_false, decide_false, ne_eq, not_false_eq_true, not_true_eq_false, reduceCtorEq, Nat.reduceLT, Nat.reduceEqDiff, Nat.reduceMul, Nat.reduceAdd]
    have f2 : Fr (fF [(51, 47)]) (fA []) ω (pJ ω 51 47 x) := Fr.rf.pJ 51 47 _ rfl
    refine ⟨((e2.up rfl rfl).trans (w2.up rfl rfl)).trans (f2.up rfl rfl), (fun k => if k < fl then 5 else by1 kd k, wh, fun k => if fsB kd (bv5 fl) k then pool * vl k else 0, fiS kd vl fl n, 0), ⟨fun k hk => ⟨?_, ?_, ?_⟩, ?_, ?_⟩, ?_, ?_⟩
    · exact (w2.aI 74 rfl k).trans (g74 k hk)
    · show (aJ ω 69 k).toInt = wh k
      rw [w2.aJ 69 rfl k, e2.aJ 69 rfl k]
      exact (hA k hk).2.2.2.2.2.1
    · exact w3 k hk
    · show x.toInt = fiS kd vl fl n
      exact e3'
    · exact (w2.I 51 49 rfl).trans ((e2.I 51 49 rfl).trans hr)
    · rw [prF, if_pos hlt]
      refine ⟨fun k a b => ⟨?_, hw k a b, ?_⟩, rfl, rfl⟩
      · show (if k < fl then 5 else by1 kd k) = by1 kd k
        rw [if_neg (by omega)]
      · show (if fsB kd (bv5 fl) k then pool * vl k else 0) = if isF kd k then pool * vl k else 0
        rw [fs5]
        simp [a]
    · intro k hk
      refine ⟨?_, rfl, ?_⟩
      · show (if k < fl then 5 else by1 kd k) = 5
        rw [if_pos hk]
      · show (if fsB kd (bv5 fl) k then pool * vl k else 0) = 0
        rw [fs5]
        simp
        omega

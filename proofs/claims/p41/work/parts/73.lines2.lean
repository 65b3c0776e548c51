/-! LINES: leg, base, proviso -/
theorem c_hasWay {τ : Sg} {b x y : Nat} (hF : Fin0 τ) (hb : isB b) (hx : x < 12) (hy : y < 12) : DX1_hasWay b (nI x) (nI y) τ = some ((if 1000000 ≤ aG τ (b + 5) x y then 0 else 1), τ) := by
  unfold DX1_hasWay DX1_hasWay_18
  by_cases c : (1000000 : Int32) ≤ aG τ (b + 5) x y <;>
  simp (disch := first | assumption | omega) [ckO, ckI, ckZ, ckJ, ckG, ckR, ckL, ckV, ck01, chk_true, bnd_some, gI_pI, gJ_pI, gR_pI, aI_pI, aJ_pI, aG_pI, gN_pI, gF_pI, gM_pI, gZ_pI, tl_pI, gI_pJ, gJ_pJ, gR_pJ, aI_pJ, aJ_pJ, aG_pJ, gN_pJ, gF_pJ, gM_pJ, gZ_pJ, tl_pJ, gI_pR, gJ_pR, gR_pR, aI_pR, aJ_pR, aG_pR, gN_pR, gF_pR, gM_pR, gZ_pR, tl_pR, gI_wI, gJ_wI, gR_wI, aI_wI, aJ_wI, aG_wI, gN_wI, gF_wI, gM_wI, gZ_wI, tl_wI, gI_wJ, gJ_wJ, gR_wJ, aI_wJ, aJ_wJ, aG_wJ, gN_wJ, gF_wJ, gM_wJ, gZ_wJ, tl_wJ, gI_wG, gJ_wG, gR_wG, aI_wG, aJ_wG, aG_wG, gN_wG, gF_wG, gM_wG, gZ_wG, tl_wG, gS_pI, gS_pJ, gS_pR, gS_wI, gS_wJ, gS_wG, fr_25_0, fr_26_0, fr_26_1, fr_26_2, fr_26_3, fr_26_4, fr_26_5, fr_26_6, fr_26_7, fr_26_8, fr_36_6, fr_36_7, fr_36_8, fr_36_9, fr_36_10, fr_36_11, fr_36_12, fr_36_13, fr_36_14, fr_46_0, fr_46_1, fr_1_0, fr_1_4, fr_1_5, fr_1_6, fr_1_7, fr_1_8, fr_1_9, fr_b_10, fr_b_11, fr_b_12, fr_b_13, fr_b_14, fr_b_15, fr_b_16, fr_b_17, fr_b_18, fr_b_19, fin_pI, fin_pJ, fin_wI, fin_wJ, fin_wG, sh_b_1, lt_b_1, sh_b_2, lt_b_2, sh_b_3, lt_b_3, sh_b_4, lt_b_4, sh_b_5, lt_b_5, sh_b_6, lt_b_6, sh_b_7, lt_b_7, sh_b_8, lt_b_8, sh_b_9, lt_b_9, sh_b_10, lt_b_10, sh_b, lt_b, nz_b, finN, sh_1, sh_2, sh_25, sh_26, sh_27, sh_28, sh_29, sh_30, sh_31, sh_32, sh_33, sh_34, sh_35, sh_36, sh_37, sh_38, sh_39, sh_40, sh_41, sh_42, sh_43, sh_44, sh_45, sh_46, sh_47, sh_48, sh_49, sh_50, mul_nI_2, mul_nI_3, mul_nI_4, mul_nI_6, mul_nI_8, mul_nI_10, mul_nI_11, mul_nI_12, mul_nI_27, mul_nI_36, mul_nI_242, add_nI_0, dda_nI_0, add_nI_1, dda_nI_1, add_nI_2, dda_nI_2, add_nI_3, dda_nI_3, add_nI_4, dda_nI_4, add_nI_5, dda_nI_5, add_nI_6, dda_nI_6, add_nI_8, dda_nI_8, add_nI_12, dda_nI_12, add_nI_64, dda_nI_64, add_nI_128, dda_nI_128, add_nI_192, dda_nI_192, add_nI_228, dda_nI_228, add_nI_234, dda_nI_234, add_nI_242, dda_nI_242, sub_nI_1, sub_nI_2, sub_nI_20, sub_nI_242, inb_0, ixl_0, inb_1, ixl_1, inb_2, ixl_2, inb_3, ixl_3, inb_4, ixl_4, inb_5, ixl_5, inb_6, ixl_6, inb_7, ixl_7, inb_8, ixl_8, inb_9, ixl_9, inb_10, ixl_10, inb_11, ixl_11, nI_add, pk_mul, ixn, inbn, le_l0, l0_le, lt_l0, l0_lt, eq_l0, l0_eq, le_l1, l1_le, lt_l1, l1_lt, eq_l1, l1_eq, le_l2, l2_le, lt_l2, l2_lt, eq_l2, l2_eq, le_l3, l3_le, lt_l3, l3_lt, eq_l3, l3_eq, le_l4, l4_le, lt_l4, l4_lt, eq_l4, l4_eq, le_l5, l5_le, lt_l5, l5_lt, eq_l5, l5_eq, le_l6, l6_le, lt_l6, l6_lt, eq_l6, l6_eq, le_l8, l8_le, lt_l8, l8_lt, eq_l8, l8_eq, le_l9, l9_le, lt_l9, l9_lt, eq_l9, l9_eq, le_l10, l10_le, lt_l10, l10_lt, eq_l10, l10_eq, le_l11, l11_le, lt_l11, l11_lt, eq_l11, l11_eq, le_l12, l12_le, lt_l12, l12_lt, eq_l12, l12_eq, le_l14, l14_le, lt_l14, l14_lt, eq_l14, l14_eq, le_l16, l16_le, lt_l16, l16_lt, eq_l16, l16_eq, le_l20, l20_le, lt_l20, l20_lt, eq_l20, l20_eq, le_l24, l24_le, lt_l24, l24_lt, eq_l24, l24_eq, le_l64, l64_le, lt_l64, l64_lt, eq_l64, l64_eq, le_l72, l72_le, lt_l72, l72_lt, eq_l72, l72_eq, le_l242, l242_le, lt_l242, l242_lt, eq_l242, l242_eq, le_l1180, l1180_le, lt_l1180, l1180_lt, eq_l1180, l1180_eq, le_l1200, l1200_le, lt_l1200, l1200_lt, eq_l1200, l1200_eq, le_l3388, l3388_le, lt_l3388, l3388_lt, eq_l3388, l3388_eq, le_l200000, l200000_le, lt_l200000, l200000_lt, eq_l200000, l200000_eq, le_l1000000, l1000000_le, lt_l1000000, l1000000_lt, eq_l1000000, l1000000_eq, le_nI, lt_nI, eq_nI, c, hx, hy]

theorem nI_neg' {q : Nat} (h : q < 2147483648) : nI q ≠ -1 := nI_neg h
section
variable {T : Nat → Int32} {n : Nat} {M : List (Nat × Nat)} {c : Nat → Int32} {L L' : Nat → Nat → Int} {W : Nat → Nat} {τ : Sg}
/-- as far as the places told go -/
theorem lay_all {P q1 q2 : Nat} {v : Int32} {D E : Nat → Nat → Int32} (hC : Clo L (fun x y => (D x y).toInt)) (bd : ∀ x y, x < 12 → y < 12 → 0 ≤ (D x y).toInt ∧ (D x y).toInt ≤ 1000000) (hC' : Clo L' (fun x y => (lgI D q1 q2 v x y).toInt)) (bd' : ∀ x y, x < 12 → y < 12 → 0 ≤ (lgI D q1 q2 v x y).toInt ∧ (lgI D q1 q2 v x y).toInt ≤ 1000000)
    (n1 : ∀ x y, 0 ≤ L x y) (n2 : ∀ x y, 0 ≤ L' x y) (f1 : ∀ x y, P ≤ x ∨ P ≤ y → L x y = 1000000) (f2 : ∀ x y, P ≤ x ∨ P ≤ y → L' x y = 1000000)
    (hE : ∀ x y, E x y = if x < P ∧ y < P then lgI D q1 q2 v x y else D x y) : ∀ x y, x < 12 → y < 12 → (E x y).toInt = (lgI D q1 q2 v x y).toInt := by
  intro x y hx hy
  rw [hE x y]
  by_cases q : x < P ∧ y < P
  · rw [if_pos q]
  · rw [if_neg q]
    by_cases qx : x = y
    · subst qx
      have a := hC.1.1 x hx
      have b := hC'.1.1 x hx
      simp only at a b
      rw [a, b]
    · have b1 := bd x y hx hy
      have b2 := bd' x y hx hy
      by_cases hp : P ≤ x
      · have g1 := (clo_far hC hx (fun u v _ _ _ => n1 u v) (fun z hz _ => ⟨f1 x z (Or.inl hp), f1 z x (Or.inr hp)⟩) y hy (Ne.symm qx)).1
        have g2 := (clo_far hC' hx (fun u v _ _ _ => n2 u v) (fun z hz _ => ⟨f2 x z (Or.inl hp), f2 z x (Or.inr hp)⟩) y hy (Ne.symm qx)).1
        omega
      · have hp2 : P ≤ y := by omega
        have g1 := (clo_far hC hy (fun u v _ _ _ => n1 u v) (fun z hz _ => ⟨f1 y z (Or.inl hp2), f1 z y (Or.inr hp2)⟩) x hx qx).2
        have g2 := (clo_far hC' hy (fun u v _ _ _ => n2 u v) (fun z hz _ => ⟨f2 y z (Or.inl hp2), f2 z y (Or.inr hp2)⟩) x hx qx).2
        omega
theorem l_Leg {P q1 q2 v : Nat} (hR : RdT T n τ ((7, 0) :: (4, plN q1) :: (4, plN q2) :: (3, v) :: (2, 0) :: M)) (h : Bk c L W τ) (hW : BW W) (hP : W 1 = P) (h1 : q1 < P) (h2 : q2 < P) (h12 : q1 ≠ q2) (hv : 1 ≤ v) (hv2 : v ≤ 9999) (hL : L q1 q2 = 1000000)
    (n1 : ∀ x y, 0 ≤ L x y) (n2 : ∀ x y, 0 ≤ L' x y) (f1 : ∀ x y, P ≤ x ∨ P ≤ y → L x y = 1000000) (f2 : ∀ x y, P ≤ x ∨ P ≤ y → L' x y = 1000000)
    (e1 : L' q1 q2 = v) (e2 : L' q2 q1 = v) (e3 : ∀ x y, ¬ (x = q1 ∧ y = q2) → ¬ (x = q2 ∧ y = q1) → L' x y = L x y) (e4 : ∀ x y, x < 12 → y < 12 → L' x y ≤ L x y) :
    Ok (DX3_readLine 25 τ) (Ln T n M c L' (W1 (stV W 3 (W 3 + 1))) τ) := by
  obtain ⟨w1, w2, w3, w4, w5, w6, w9⟩ := hW
  rw [ds_Leg hR h.r (h.n (by decide)) (by omega)]
  refine ln_w ?_
  have hF := hR.fin
  unfold DX3_readLeg
  rw [c_ck hF, chk_true]
  refine ok_bnd (r_st hR) (fun _ τ1 g1 => ?_)
  obtain ⟨k1, R1⟩ := g1
  have B1 := h.rd k1
  rw [c_ck R1.fin, chk_true]
  refine ok_bnd (r_pl (q := q1) (f := plN) R1 isB14 B1.r (by rw [B1.n (by decide), hP]) (by omega) (by rw [← hP]; exact B1.nm.1) (by omega) rfl (fun j hj => (nmP (p := j) (q := q1) (by omega) (by omega) (by omega)).1) (fun j hj => (nmL (by omega)).1) (nI_neg' (by omega))) (fun r τ2 g2 => ?_)
  obtain ⟨rfl, k2, R2⟩ := g2
  have B2 := B1.rd k2
  rw [if_neg (nI_neg (by omega)), c_ck R2.fin, chk_true]
  refine ok_bnd (r_pl (q := q2) (f := plN) R2 isB14 B2.r (by rw [B2.n (by decide), hP]) (by omega) (by rw [← hP]; exact B2.nm.1) (by omega) rfl (fun j hj => (nmP (p := j) (q := q2) (by omega) (by omega) (by omega)).1) (fun j hj => (nmL (by omega)).1) (fun z => h12 ((nI_eq (by omega) (by omega)).mp z).symm)) (fun r τ3 g3 => ?_)
  obtain ⟨rfl, k3, R3⟩ := g3
  have B3 := B2.rd k3
  have hb := isB14
  have hF3 := R3.fin
  have r3 := B3.r
  obtain ⟨p1, p2, p3⟩ := B3.2.2.2.1
  have l0 : aG τ3 (14 + 4) q1 q2 = 0 := p1 q1 q2 (by omega) (by omega) hL
  rw [if_neg (nI_neg (by omega))]
  have g13 : gR τ3 14 13 = 18 := hF3.2 (14, 13, 18) (by decide)
  have cg : ckG τ3 18 (nI q1) = true := by simp (disch := first | assumption | omega) [ckO, ckI, ckZ, ckJ, ckG, ckR, ckL, ckV, ck01, chk_true, bnd_some, gI_pI, gJ_pI, gR_pI, aI_pI, aJ_pI, aG_pI, gN_pI, gF_pI, gM_pI, gZ_pI, tl_pI, gI_pJ, gJ_pJ, gR_pJ, aI_pJ, aJ_pJ, aG_pJ, gN_pJ, gF_pJ, gM_pJ, gZ_pJ, tl_pJ, gI_pR, gJ_pR, gR_pR, aI_pR, aJ_pR, aG_pR, gN_pR, gF_pR, gM_pR, gZ_pR, tl_pR, gI_wI, gJ_wI, gR_wI, aI_wI, aJ_wI, aG_wI, gN_wI, gF_wI, gM_wI, gZ_wI, tl_wI, gI_wJ, gJ_wJ, gR_wJ, aI_wJ, aJ_wJ, aG_wJ, gN_wJ, gF_wJ, gM_wJ, gZ_wJ, tl_wJ, gI_wG, gJ_wG, gR_wG, aI_wG, aJ_wG, aG_wG, gN_wG, gF_wG, gM_wG, gZ_wG, tl_wG, gS_pI, gS_pJ, gS_pR, gS_wI, gS_wJ, gS_wG, fr_25_0, fr_26_0, fr_26_1, fr_26_2, fr_26_3, fr_26_4, fr_26_5, fr_26_6, fr_26_7, fr_26_8, fr_36_6, fr_36_7, fr_36_8, fr_36_9, fr_36_10, fr_36_11, fr_36_12, fr_36_13, fr_36_14, fr_46_0, fr_46_1, fr_1_0, fr_1_4, fr_1_5, fr_1_6, fr_1_7, fr_1_8, fr_1_9, fr_b_10, fr_b_11, fr_b_12, fr_b_13, fr_b_14, fr_b_15, fr_b_16, fr_b_17, fr_b_18, fr_b_19, fin_pI, fin_pJ, fin_wI, fin_wJ, fin_wG, sh_b_1, lt_b_1, sh_b_2, lt_b_2, sh_b_3, lt_b_3, sh_b_4, lt_b_4, sh_b_5, lt_b_5, sh_b_6, lt_b_6, sh_b_7, lt_b_7, sh_b_8, lt_b_8, sh_b_9, lt_b_9, sh_b_10, lt_b_10, sh_b, lt_b, nz_b, finN, sh_1, sh_2, sh_25, sh_26, sh_27, sh_28, sh_29, sh_30, sh_31, sh_32, sh_33, sh_34, sh_35, sh_36, sh_37, sh_38, sh_39, sh_40, sh_41, sh_42, sh_43, sh_44, sh_45, sh_46, sh_47, sh_48, sh_49, sh_50, mul_nI_2, mul_nI_3, mul_nI_4, mul_nI_6, mul_nI_8, mul_nI_10, mul_nI_11, mul_nI_12, mul_nI_27, mul_nI_36, mul_nI_242, add_nI_0, dda_nI_0, add_nI_1, dda_nI_1, add_nI_2, dda_nI_2, add_nI_3, dda_nI_3, add_nI_4, dda_nI_4, add_nI_5, dda_nI_5, add_nI_6, dda_nI_6, add_nI_8, dda_nI_8, add_nI_12, dda_nI_12, add_nI_64, dda_nI_64, add_nI_128, dda_nI_128, add_nI_192, dda_nI_192, add_nI_228, dda_nI_228, add_nI_234, dda_nI_234, add_nI_242, dda_nI_242, sub_nI_1, sub_nI_2, sub_nI_20, sub_nI_242, inb_0, ixl_0, inb_1, ixl_1, inb_2, ixl_2, inb_3, ixl_3, inb_4, ixl_4, inb_5, ixl_5, inb_6, ixl_6, inb_7, ixl_7, inb_8, ixl_8, inb_9, ixl_9, inb_10, ixl_10, inb_11, ixl_11, nI_add, pk_mul, ixn, inbn, le_l0, l0_le, lt_l0, l0_lt, eq_l0, l0_eq, le_l1, l1_le, lt_l1, l1_lt, eq_l1, l1_eq, le_l2, l2_le, lt_l2, l2_lt, eq_l2, l2_eq, le_l3, l3_le, lt_l3, l3_lt, eq_l3, l3_eq, le_l4, l4_le, lt_l4, l4_lt, eq_l4, l4_eq, le_l5, l5_le, lt_l5, l5_lt, eq_l5, l5_eq, le_l6, l6_le, lt_l6, l6_lt, eq_l6, l6_eq, le_l8, l8_le, lt_l8, l8_lt, eq_l8, l8_eq, le_l9, l9_le, lt_l9, l9_lt, eq_l9, l9_eq, le_l10, l10_le, lt_l10, l10_lt, eq_l10, l10_eq, le_l11, l11_le, lt_l11, l11_lt, eq_l11, l11_eq, le_l12, l12_le, lt_l12, l12_lt, eq_l12, l12_eq, le_l14, l14_le, lt_l14, l14_lt, eq_l14, l14_eq, le_l16, l16_le, lt_l16, l16_lt, eq_l16, l16_eq, le_l20, l20_le, lt_l20, l20_lt, eq_l20, l20_eq, le_l24, l24_le, lt_l24, l24_lt, eq_l24, l24_eq, le_l64, l64_le, lt_l64, l64_lt, eq_l64, l64_eq, le_l72, l72_le, lt_l72, l72_lt, eq_l72, l72_eq, le_l242, l242_le, lt_l242, l242_lt, eq_l242, l242_eq, le_l1180, l1180_le, lt_l1180, l1180_lt, eq_l1180, l1180_eq, le_l1200, l1200_le, lt_l1200, l1200_lt, eq_l1200, l1200_eq, le_l3388, l3388_le, lt_l3388, l3388_lt, eq_l3388, l3388_eq, le_l200000, l200000_le, lt_l200000, l200000_lt, eq_l200000, l200000_eq, le_l1000000, l1000000_le, lt_l1000000, l1000000_lt, eq_l1000000, l1000000_eq, le_nI, lt_nI, eq_nI, show q1 < 12 by omega]
  have cr : ckR τ3 18 q1 (nI q2) = true := by simp (disch := first | assumption | omega) [ckO, ckI, ckZ, ckJ, ckG, ckR, ckL, ckV, ck01, chk_true, bnd_some, gI_pI, gJ_pI, gR_pI, aI_pI, aJ_pI, aG_pI, gN_pI, gF_pI, gM_pI, gZ_pI, tl_pI, gI_pJ, gJ_pJ, gR_pJ, aI_pJ, aJ_pJ, aG_pJ, gN_pJ, gF_pJ, gM_pJ, gZ_pJ, tl_pJ, gI_pR, gJ_pR, gR_pR, aI_pR, aJ_pR, aG_pR, gN_pR, gF_pR, gM_pR, gZ_pR, tl_pR, gI_wI, gJ_wI, gR_wI, aI_wI, aJ_wI, aG_wI, gN_wI, gF_wI, gM_wI, gZ_wI, tl_wI, gI_wJ, gJ_wJ, gR_wJ, aI_wJ, aJ_wJ, aG_wJ, gN_wJ, gF_wJ, gM_wJ, gZ_wJ, tl_wJ, gI_wG, gJ_wG, gR_wG, aI_wG, aJ_wG, aG_wG, gN_wG, gF_wG, gM_wG, gZ_wG, tl_wG, gS_pI, gS_pJ, gS_pR, gS_wI, gS_wJ, gS_wG, fr_25_0, fr_26_0, fr_26_1, fr_26_2, fr_26_3, fr_26_4, fr_26_5, fr_26_6, fr_26_7, fr_26_8, fr_36_6, fr_36_7, fr_36_8, fr_36_9, fr_36_10, fr_36_11, fr_36_12, fr_36_13, fr_36_14, fr_46_0, fr_46_1, fr_1_0, fr_1_4, fr_1_5, fr_1_6, fr_1_7, fr_1_8, fr_1_9, fr_b_10, fr_b_11, fr_b_12, fr_b_13, fr_b_14, fr_b_15, fr_b_16, fr_b_17, fr_b_18, fr_b_19, fin_pI, fin_pJ, fin_wI, fin_wJ, fin_wG, sh_b_1, lt_b_1, sh_b_2, lt_b_2, sh_b_3, lt_b_3, sh_b_4, lt_b_4, sh_b_5, lt_b_5, sh_b_6, lt_b_6, sh_b_7, lt_b_7, sh_b_8, lt_b_8, sh_b_9, lt_b_9, sh_b_10, lt_b_10, sh_b, lt_b, nz_b, finN, sh_1, sh_2, sh_25, sh_26, sh_27, sh_28, sh_29, sh_30, sh_31, sh_32, sh_33, sh_34, sh_35, sh_36, sh_37, sh_38, sh_39, sh_40, sh_41, sh_42, sh_43, sh_44, sh_45, sh_46, sh_47, sh_48, sh_49, sh_50, mul_nI_2, mul_nI_3, mul_nI_4, mul_nI_6, mul_nI_8, mul_nI_10, mul_nI_11, mul_nI_12, mul_nI_27, mul_nI_36, mul_nI_242, add_nI_0, dda_nI_0, add_nI_1, dda_nI_1, add_nI_2, dda_nI_2, add_nI_3, dda_nI_3, add_nI_4, dda_nI_4, add_nI_5, dda_nI_5, add_nI_6, dda_nI_6, add_nI_8, dda_nI_8, add_nI_12, dda_nI_12, add_nI_64, dda_nI_64, add_nI_128, dda_nI_128, add_nI_192, dda_nI_192, add_nI_228, dda_nI_228, add_nI_234, dda_nI_234, add_nI_242, dda_nI_242, sub_nI_1, sub_nI_2, sub_nI_20, sub_nI_242, inb_0, ixl_0, inb_1, ixl_1, inb_2, ixl_2, inb_3, ixl_3, inb_4, ixl_4, inb_5, ixl_5, inb_6, ixl_6, inb_7, ixl_7, inb_8, ixl_8, inb_9, ixl_9, inb_10, ixl_10, inb_11, ixl_11, nI_add, pk_mul, ixn, inbn, le_l0, l0_le, lt_l0, l0_lt, eq_l0, l0_eq, le_l1, l1_le, lt_l1, l1_lt, eq_l1, l1_eq, le_l2, l2_le, lt_l2, l2_lt, eq_l2, l2_eq, le_l3, l3_le, lt_l3, l3_lt, eq_l3, l3_eq, le_l4, l4_le, lt_l4, l4_lt, eq_l4, l4_eq, le_l5, l5_le, lt_l5, l5_lt, eq_l5, l5_eq, le_l6, l6_le, lt_l6, l6_lt, eq_l6, l6_eq, le_l8, l8_le, lt_l8, l8_lt, eq_l8, l8_eq, le_l9, l9_le, lt_l9, l9_lt, eq_l9, l9_eq, le_l10, l10_le, lt_l10, l10_lt, eq_l10, l10_eq, le_l11, l11_le, lt_l11, l11_lt, eq_l11, l11_eq, le_l12, l12_le, lt_l12, l12_lt, eq_l12, l12_eq, le_l14, l14_le, lt_l14, l14_lt, eq_l14, l14_eq, le_l16, l16_le, lt_l16, l16_lt, eq_l16, l16_eq, le_l20, l20_le, lt_l20, l20_lt, eq_l20, l20_eq, le_l24, l24_le, lt_l24, l24_lt, eq_l24, l24_eq, le_l64, l64_le, lt_l64, l64_lt, eq_l64, l64_eq, le_l72, l72_le, lt_l72, l72_lt, eq_l72, l72_eq, le_l242, l242_le, lt_l242, l242_lt, eq_l242, l242_eq, le_l1180, l1180_le, lt_l1180, l1180_lt, eq_l1180, l1180_eq, le_l1200, l1200_le, lt_l1200, l1200_lt, eq_l1200, l1200_eq, le_l3388, l3388_le, lt_l3388, l3388_lt, eq_l3388, l3388_eq, le_l200000, l200000_le, lt_l200000, l200000_lt, eq_l200000, l200000_eq, le_l1000000, l1000000_le, lt_l1000000, l1000000_lt, eq_l1000000, l1000000_eq, le_nI, lt_nI, eq_nI, show q1 < 12 by omega, show q2 < 12 by omega]
  rw [c_ck hF3, chk_true, r3, show ckV 14 = true by decide, chk_true, b_ck hF3 isB14, chk_true, g13, show ckV 18 = true by decide, chk_true, cg, chk_true, nI_clamp (show q1 < 2 ^ 31 by omega), cr, chk_true, nI_clamp (show q2 < 2 ^ 31 by omega), show aG τ3 18 q1 q2 = 0 from l0, if_pos rfl, chk_true]
  refine ok_bnd (r_num (lo := 1) (hi := 9999) R3 (by omega) (by omega) (by omega)) (fun r τ4 g4 => ?_)
  obtain ⟨rfl, k4, R4⟩ := g4
  have B4 := B3.rd k4
  obtain ⟨d1, d2, d3⟩ := B4.2.2.2.1
  obtain ⟨o1, o2, o3⟩ := al_ok (L' := L') (a := q1) (b := q2) (m := nI v) d2 d3 (by rw [nI_i (by omega)]; omega) (by omega) (by omega) h12 (by rw [nI_i (by omega)]; exact e1) (by rw [nI_i (by omega)]; exact e2) e3 e4
  rw [if_neg (nI_neg (by omega)), c_ck R4.fin, chk_true, B4.r, show ckV 14 = true by decide, chk_true, b_ck R4.fin isB14, chk_true]
  refine ok_bnd (c_addLeg (P := P) (k := W 3) R4.fin isB14 (by rw [B4.n (by decide), hP]) (by omega) (B4.n (by decide)) h1 h2 o1) (fun _ τ5 g5 => ?_)
  obtain ⟨k5, c3, m4, m5⟩ := g5
  have k5 : Fr (fF [(14, 3)]) (fA [18, 19]) τ4 τ5 := k5
  have R5 := R4.fr k5 (by decide) (by decide) rfl
  have hE := lay_all (P := P) (E := aG τ5 19) d2 d3 o2 o3 n1 n2 f1 f2 m5
  refine l_endw R5 (W := stV W 3 (W 3 + 1)) ⟨(k5.R 25 1 rfl).trans B4.r, cnt_st k5 B4.2.1 c3, B4.nm.fr k5 rfl rfl rfl, ⟨fun x y hx hy hz => ?_, clo_cg o2 (fun _ _ _ _ => rfl) hE, fun x y hx hy => by rw [hE x y hx hy]; exact o3 x y hx hy⟩, B4.2.2.2.2.1.fr k5 rfl, B4.2.2.2.2.2.1.fr k5 rfl, B4.2.2.2.2.2.2.1.fr k5 rfl, B4.2.2.2.2.2.2.2.fr k5 rfl rfl⟩ ((rd_lf (((k1.trans k2).trans k3).trans k4)).trans (k5.up (by decide) (by decide)))
  have m4' := m4 x y
  rw [show aG τ5 18 x y = _ from m4']
  by_cases q : (x = q1 ∧ y = q2) ∨ (x = q2 ∧ y = q1)
  · rcases q with ⟨rfl, rfl⟩ | ⟨rfl, rfl⟩
    · omega
    · omega
  · rw [if_neg q]
    exact d1 x y hx hy (by rw [← e3 x y (fun z => q (Or.inl z)) (fun z => q (Or.inr z))]; exact hz)
theorem baR_no {base : Nat → Nat → Int32} {a x y : Int32} : ∀ (d i : Nat), (∀ j, i ≤ j → j < i + d → ¬ (base j 0 = a ∧ isP (base j 1) (base j 2) x y = true)) → baR base a x y d i = -1
  | 0, _, _ => rfl
  | d + 1, i, h => by
    unfold baR
    rw [if_neg (h i (by omega) (by omega))]
    exact baR_no d (i + 1) (fun j a b => h j (by omega) (by omega))
theorem isP_nb {p q : Nat} (hp : p < 1000) (hq : q < 1000) : isP (nI p) (nI (p + 1)) (nI q) (nI (q + 1)) = decide (p = q) := by
  have e : ∀ a b : Nat, a < 2000 → b < 2000 → decide (nI a = nI b) = decide (a = b) := fun a b ha hb => decide_eq_decide.mpr (nI_eq (by omega) (by omega))
  unfold isP
  rw [e p q (by omega) (by omega), e (p + 1) (q + 1) (by omega) (by omega), e p (q + 1) (by omega) (by omega), e (p + 1) q (by omega) (by omega)]
  by_cases z : p = q
  · simp [z]
  · by_cases z2 : p = q + 1
    · simp [z, z2]
      omega
    · simp [z, z2]
theorem b_inj {i k : Nat} (hi : bI c i = true) (hk : bI c k = true) (h1 : bC c i = bC c k) (h2 : bP c i = bP c k) : i = k := by
  have hc := nCa_b c
  have hp := nPl_b c
  unfold bI at hi hk
  simp only [decide_eq_true_eq] at hi hk
  unfold bC at h1
  unfold bP at h2
  have a1 : i / nCa c < nPl c - 1 := Nat.div_lt_of_lt_mul hi
  have a2 : k / nCa c < nPl c - 1 := Nat.div_lt_of_lt_mul hk
  rw [Nat.mod_eq_of_lt a1, Nat.mod_eq_of_lt a2] at h2
  rw [← Nat.div_add_mod i (nCa c), ← Nat.div_add_mod k (nCa c), h1, h2]
theorem l_Base {p : Nat} (hR : RdT T n τ ((16, 0) :: (4, caN (bC c p)) :: (4, plN (bP c p)) :: (4, plN (bP c p + 1)) :: (3, bV c p) :: (2, 0) :: M)) (h : Bk c L W τ) (hP : W 1 = nPl c) (hC : W 2 = nCa c) (hp : W 6 = p) (hp5 : p < 3) (hI : bI c p = true) : Ok (DX3_readLine 25 τ) (Ln T n M c L (W1 (stV W 6 (p + 1))) τ) := by
  have bc := nCa_b c
  have bp := nPl_b c
  have b1 := bC_b c p
  have b2 := bP_b c p
  have b3 := bV_b c p
  rw [ds_Base hR h.r (by rw [h.n (by decide), hp]) (by omega)]
  refine ln_w ?_
  have hF := hR.fin
  unfold DX3_readBase
  rw [c_ck hF, chk_true]
  refine ok_bnd (r_st hR) (fun _ τ1 g1 => ?_)
  obtain ⟨k1, R1⟩ := g1
  have B1 := h.rd k1
  rw [c_ck R1.fin, chk_true]
  refine ok_bnd (r_ca (q := bC c p) (f := caN) R1 isB14 B1.r (by rw [B1.n (by decide), hC]) (by omega) (by rw [← hC]; exact B1.nm.2.1) (by omega) rfl (fun j hj => (nmP (p := j) (q := bC c p) (by omega) (by omega) (by omega)).2.1) (fun j hj => (nmL (by omega)).2.1) (nI_neg' (by omega))) (fun r τ2 g2 => ?_)
  obtain ⟨rfl, k2, R2⟩ := g2
  have B2 := B1.rd k2
  rw [if_neg (nI_neg (by omega)), c_ck R2.fin, chk_true]
  refine ok_bnd (r_pl (q := bP c p) (f := plN) R2 isB14 B2.r (by rw [B2.n (by decide), hP]) (by omega) (by rw [← hP]; exact B2.nm.1) (by omega) rfl (fun j hj => (nmP (p := j) (q := bP c p) (by omega) (by omega) (by omega)).1) (fun j hj => (nmL (by omega)).1) (nI_neg' (by omega))) (fun r τ3 g3 => ?_)
  obtain ⟨rfl, k3, R3⟩ := g3
  have B3 := B2.rd k3
  rw [if_neg (nI_neg (by omega)), c_ck R3.fin, chk_true]
  refine ok_bnd (r_pl (q := bP c p + 1) (f := plN) R3 isB14 B3.r (by rw [B3.n (by decide), hP]) (by omega) (by rw [← hP]; exact B3.nm.1) (by omega) rfl (fun j hj => (nmP (p := j) (q := bP c p + 1) (by omega) (by omega) (by omega)).1) (fun j hj => (nmL (by omega)).1) (fun z => by have := (nI_eq (by omega) (by omega)).mp z; omega)) (fun r τ4 g4 => ?_)
  obtain ⟨rfl, k4, R4⟩ := g4
  have B4 := B3.rd k4
  have eb := s_base (nb := p) R4.fin isB14 (by rw [B4.n (by decide), hp]) (by omega) (nI (bC c p)) (nI (bP c p)) (nI (bP c p + 1))
  have er : baR (aG τ4 (14 + 8)) (nI (bC c p)) (nI (bP c p)) (nI (bP c p + 1)) p 0 = -1 := baR_no p 0 (fun j _ hj z => by
    obtain ⟨s0, s1, s2, -⟩ := B4.2.2.2.2.2.2.1 j (by omega)
    have c1 := bC_b c j
    have c2 := bP_b c j
    rw [show aG τ4 (14 + 8) j 0 = _ from s0, show aG τ4 (14 + 8) j 1 = _ from s1, show aG τ4 (14 + 8) j 2 = _ from s2, eq_nI (by omega) (by omega), isP_nb (by omega) (by omega), decide_eq_true_eq] at z
    have hj2 : bI c j = true := by
      unfold bI at hI ⊢
      simp only [decide_eq_true_eq] at hI ⊢
      omega
    have := b_inj hj2 hI z.1 z.2
    omega)
  rw [er] at eb
  rw [if_neg (nI_neg (by omega)), c_ck R4.fin, chk_true, B4.r, show ckV 14 = true by decide, chk_true, b_ck R4.fin isB14, chk_true]
  refine ok_bnd_eq eb ?_
  rw [if_pos rfl, c_ck R4.fin, chk_true]
  refine ok_bnd (r_num (lo := 1) (hi := 999999) R4 (by omega) (by omega) (by omega)) (fun r τ5 g5 => ?_)
  obtain ⟨rfl, k5, R5⟩ := g5
  have B5 := B4.rd k5
  have ea := c_addBase (x := nI (bC c p)) (y := nI (bP c p)) (z := nI (bP c p + 1)) (w := nI (bV c p)) (k := p) R5.fin isB14 (by rw [B5.n (by decide), hp]) (by omega)
  rw [if_neg (nI_neg (by omega)), c_ck R5.fin, chk_true, B5.r, show ckV 14 = true by decide, chk_true, b_ck R5.fin isB14, chk_true]
  refine ok_bnd_eq ea ?_
  have f6 : Fr (fF [(14, 6)]) (fA [22]) τ5 (pI (wG (wG (wG (wG τ5 (14 + 8) p 0 (nI (bC c p))) (14 + 8) p 1 (nI (bP c p))) (14 + 8) p 2 (nI (bP c p + 1))) (14 + 8) p 3 (nI (bV c p))) 14 6 (nI (p + 1))) := ((((Fr.rf.wG 22 _ _ _ rfl).wG 22 _ _ _ rfl).wG 22 _ _ _ rfl).wG 22 _ _ _ rfl).pI 14 6 _ rfl
  generalize e6 : pI (wG (wG (wG (wG τ5 (14 + 8) p 0 (nI (bC c p))) (14 + 8) p 1 (nI (bP c p))) (14 + 8) p 2 (nI (bP c p + 1))) (14 + 8) p 3 (nI (bV c p))) 14 6 (nI (p + 1)) = τ6 at f6 ⊢
  have R6 := R5.fr f6 (by decide) (by decide) rfl
  have ec : gI τ6 14 6 = nI (p + 1) := by rw [← e6, gI_pI, if_pos ⟨rfl, rfl⟩]
  have n6 : Ps c (p + 1) τ6 := fun i hi => by
    have hall : ∀ j, aG τ6 22 i j = if i = p ∧ j = 3 then nI (bV c p) else if i = p ∧ j = 2 then nI (bP c p + 1) else if i = p ∧ j = 1 then nI (bP c p) else if i = p ∧ j = 0 then nI (bC c p) else aG τ5 22 i j := fun j => by
      rw [← e6, aG_pI, aG_wG, aG_wG, aG_wG, aG_wG]
      simp only [true_and]
    rw [hall 0, hall 1, hall 2, hall 3]
    by_cases q : i = p
    · subst q
      simp
    · simp only [q, false_and, if_false]
      exact B5.2.2.2.2.2.2.1 i (by omega)
  refine l_endw R6 (W := stV W 6 (p + 1)) ⟨(f6.R 25 1 rfl).trans B5.r, cnt_st f6 B5.2.1 ec, B5.nm.fr f6 rfl rfl rfl, B5.2.2.2.1.fr f6 rfl rfl, B5.2.2.2.2.1.fr f6 rfl, B5.2.2.2.2.2.1.fr f6 rfl, n6, B5.2.2.2.2.2.2.2.fr f6 rfl rfl⟩ ((rd_lf ((((k1.trans k2).trans k3).trans k4).trans k5)).trans (f6.up (by decide) (by decide)))
def xA (c : Nat → Int32) (p : Nat) : Int32 := if pA c p then -2 else nI (pX c p)
def yA (c : Nat → Int32) (p : Nat) : Int32 := if pA c p then -2 else nI (pY c p)
def oA (c : Nat → Int32) (p : Nat) : Int32 := if pW c p then nI (pO c p) else -2
/-- the end of a proviso -/
theorem p_135 {p : Nat} {τ0 : Sg} (hR : RdT T n τ ((2, 0) :: M)) (h : Bk c L W τ) (hf : Fr (fF RdC) (fA []) τ0 τ) (hp : W 5 = p) (hp5 : p < 5) : Ok (DX3_readProviso_135 25 (nI (pC c p)) (xA c p) (yA c p) (nI (pK c p)) (nI (pV c p)) (oA c p) τ) (Ln T n M c L (W1 (stV W 5 (p + 1))) τ0) := by
  have b6 := pO_b c p
  have bc := nCa_b c
  have o1 : ¬ oA c p = -1 := by
    unfold oA
    split
    · exact nI_neg (by omega)
    · decide
  have ea := c_addProviso (x0 := nI (pC c p)) (x1 := xA c p) (x2 := yA c p) (x3 := nI (pK c p)) (x4 := nI (pV c p)) (x5 := oA c p) (k := p) hR.fin isB14 (by rw [h.n (by decide), hp]) (by omega)
  unfold DX3_readProviso_135
  rw [if_neg o1, c_ck hR.fin, chk_true, h.r, show ckV 14 = true by decide, chk_true, b_ck hR.fin isB14, chk_true]
  refine ok_bnd_eq ea ?_
  have f6 : Fr (fF [(14, 5)]) (fA [21]) τ (pI (wG (wG (wG (wG (wG (wG τ (14 + 7) p 0 (nI (pC c p))) (14 + 7) p 1 (xA c p)) (14 + 7) p 2 (yA c p)) (14 + 7) p 3 (nI (pK c p))) (14 + 7) p 4 (nI (pV c p))) (14 + 7) p 5 (oA c p)) 14 5 (nI (p + 1))) := ((((((Fr.rf.wG 21 _ _ _ rfl).wG 21 _ _ _ rfl).wG 21 _ _ _ rfl).wG 21 _ _ _ rfl).wG 21 _ _ _ rfl).wG 21 _ _ _ rfl).pI 14 5 _ rfl
  generalize e6 : pI (wG (wG (wG (wG (wG (wG τ (14 + 7) p 0 (nI (pC c p))) (14 + 7) p 1 (xA c p)) (14 + 7) p 2 (yA c p)) (14 + 7) p 3 (nI (pK c p))) (14 + 7) p 4 (nI (pV c p))) (14 + 7) p 5 (oA c p)) 14 5 (nI (p + 1)) = τ6 at f6 ⊢
  have R6 := hR.fr f6 (by decide) (by decide) rfl
  have ec : gI τ6 14 5 = nI (p + 1) := by rw [← e6, gI_pI, if_pos ⟨rfl, rfl⟩]
  have n6 : Pv c (p + 1) τ6 := fun i hi => by
    have hall : ∀ j, aG τ6 21 i j = if i = p ∧ j = 5 then oA c p else if i = p ∧ j = 4 then nI (pV c p) else if i = p ∧ j = 3 then nI (pK c p) else if i = p ∧ j = 2 then yA c p else if i = p ∧ j = 1 then xA c p else if i = p ∧ j = 0 then nI (pC c p) else aG τ 21 i j := fun j => by
      rw [← e6, aG_pI, aG_wG, aG_wG, aG_wG, aG_wG, aG_wG, aG_wG]
      simp only [true_and]
    rw [hall 0, hall 1, hall 2, hall 3, hall 4, hall 5]
    by_cases q : i = p
    · subst q
      simp [xA, yA, oA]
    · simp only [q, false_and, if_false]
      exact h.2.2.2.2.2.1 i (by omega)
  exact l_endw R6 (W := stV W 5 (p + 1)) ⟨(f6.R 25 1 rfl).trans h.r, cnt_st f6 h.2.1 ec, h.nm.fr f6 rfl rfl rfl, h.2.2.2.1.fr f6 rfl rfl, h.2.2.2.2.1.fr f6 rfl, n6, h.2.2.2.2.2.2.1.fr f6 rfl, h.2.2.2.2.2.2.2.fr f6 rfl rfl⟩ ((rd_lf hf).trans (f6.up (by decide) (by decide)))
def tkW (c : Nat → Int32) (p : Nat) : List (Nat × Nat) := if pW c p then [(15, 0), (4, caN (pO c p))] else []
def tkA (c : Nat → Int32) (p : Nat) : List (Nat × Nat) := if pA c p then [(10, 0)] else [(4, plN (pX c p)), (4, plN (pY c p))]
theorem p_97 {p hi : Nat} {τ0 : Sg} (hR : RdT T n τ ((3, pV c p) :: (tkW c p ++ (2, 0) :: M))) (h : Bk c L W τ) (hf : Fr (fF RdC) (fA []) τ0 τ) (hC : W 2 = nCa c) (hp : W 5 = p) (hp5 : p < 5) (hh : pV c p ≤ hi) (hh2 : hi ≤ 999999) : Ok (DX3_readProviso_97 25 (nI (pC c p)) (xA c p) (yA c p) (nI (pK c p)) 25 (nI 1) (nI hi) τ) (Ln T n M c L (W1 (stV W 5 (p + 1))) τ0) := by
  have b5 := pV_b c p
  have b6 := pO_b c p
  have bc := nCa_b c
  have b1 := pC_b c p
  unfold DX3_readProviso_97
  rw [c_ck hR.fin, chk_true]
  refine ok_bnd (r_num hR (by omega) hh (by omega)) (fun r τ1 g1 => ?_)
  obtain ⟨rfl, k1, R1⟩ := g1
  have B1 := h.rd k1
  rw [if_neg (nI_neg (by omega)), c_ck R1.fin, chk_true]
  unfold tkW at R1
  by_cases q : pW c p = true
  · rw [if_pos q] at R1
    have R1 : RdT T n τ1 ((15, 0) :: (4, caN (pO c p)) :: (2, 0) :: M) := R1
    have et : gR τ1 25 4 = 1015 := R1.tk
    rw [et, show ckV 1015 = true by decide, chk_true, show (ckT 1015 && ckT 1015) = true by decide, chk_true, if_pos rfl, chk_true]
    refine ok_bnd (r_st R1) (fun _ τ2 g2 => ?_)
    obtain ⟨k2, R2⟩ := g2
    have B2 := B1.rd k2
    have hne : nI (pO c p) ≠ nI (pC c p) := fun z => by
      have z := (nI_eq (by omega) (by omega)).mp z
      unfold pW at q
      simp only [Bool.and_eq_true, decide_eq_true_eq] at q
      unfold pO at z
      by_cases y : pC c p + 1 < nCa c
      · rw [Nat.mod_eq_of_lt y] at z; omega
      · rw [show pC c p + 1 = nCa c by omega, Nat.mod_self] at z; omega
    rw [c_ck R2.fin, chk_true]
    refine ok_bnd (r_ca (q := pO c p) (f := caN) R2 isB14 B2.r (by rw [B2.n (by decide), hC]) (by omega) (by rw [← hC]; exact B2.nm.2.1) (by omega) rfl (fun j hj => (nmP (p := j) (q := pO c p) (by omega) (by omega) (by omega)).2.1) (fun j hj => (nmL (by omega)).2.1) hne) (fun r τ3 g3 => ?_)
    obtain ⟨rfl, k3, R3⟩ := g3
    have := p_135 (p := p) R3 (B2.rd k3) (((hf.trans k1).trans k2).trans k3) hp hp5
    rw [show oA c p = nI (pO c p) from if_pos q] at this
    exact this
  · rw [if_neg q] at R1
    have R1 : RdT T n τ1 ((2, 0) :: M) := R1
    have et : gR τ1 25 4 = 1002 := R1.tk
    rw [et, show ckV 1002 = true by decide, chk_true, show (ckT 1002 && ckT 1015) = true by decide, chk_true, if_neg (by decide)]
    have := p_135 (p := p) R1 B1 (hf.trans k1) hp hp5
    rw [show oA c p = -2 from if_neg q] at this
    exact this
theorem p_68 {p : Nat} {τ0 : Sg} (hR : RdT T n τ ((10 + pK c p, 0) :: (3, pV c p) :: (tkW c p ++ (2, 0) :: M))) (h : Bk c L W τ) (hf : Fr (fF RdC) (fA []) τ0 τ) (hC : W 2 = nCa c) (hp : W 5 = p) (hp5 : p < 5) : Ok (DX3_readProviso_68 25 (nI (pC c p)) (xA c p) (yA c p) τ) (Ln T n M c L (W1 (stV W 5 (p + 1))) τ0) := by
  have b4 := pK_b c p
  have b5 := pV_b c p
  unfold DX3_readProviso_68
  rw [c_ck hR.fin, chk_true]
  refine ok_bnd (r_kind hR (by omega) (by omega)) (fun r τ1 g1 => ?_)
  obtain ⟨rfl, k1, R1⟩ := g1
  have B1 := h.rd k1
  rw [show 10 + pK c p - 10 = pK c p by omega, if_neg (nI_neg (by omega))]
  by_cases q : pK c p = 2
  · rw [if_pos (show nI (pK c p) = (2 : Int32) by rw [q]; rfl)]
    exact p_97 (hi := 100) R1 B1 (hf.trans k1) hC hp hp5 (by have := b5.2.2 q; omega) (by omega)
  · rw [if_neg (show ¬ nI (pK c p) = (2 : Int32) from fun z => q ((nI_eq (b := 2) (by omega) (by decide)).mp z))]
    exact p_97 (hi := 999999) R1 B1 (hf.trans k1) hC hp hp5 (by omega) (by omega)
theorem l_Proviso {p : Nat} (hR : RdT T n τ ((9, 0) :: (4, caN (pC c p)) :: (tkA c p ++ ((10 + pK c p, 0) :: (3, pV c p) :: (tkW c p ++ (2, 0) :: M))))) (h : Bk c L W τ) (hP : W 1 = nPl c) (hC : W 2 = nCa c) (hp : W 5 = p) (hp5 : p < 5) : Ok (DX3_readLine 25 τ) (Ln T n M c L (W1 (stV W 5 (p + 1))) τ) := by
  have bc := nCa_b c
  have bp := nPl_b c
  have b1 := pC_b c p
  have b2 := pX_b c p
  have b3 := pY_b c p
  have b4 := pK_b c p
  have hxy := pXY c p
  rw [ds_Proviso hR h.r (by rw [h.n (by decide), hp]) (by omega)]
  refine ln_w ?_
  have hF := hR.fin
  unfold DX3_readProviso
  rw [c_ck hF, chk_true]
  refine ok_bnd (r_st hR) (fun _ τ1 g1 => ?_)
  obtain ⟨k1, R1⟩ := g1
  have B1 := h.rd k1
  rw [c_ck R1.fin, chk_true]
  refine ok_bnd (r_ca (q := pC c p) (f := caN) R1 isB14 B1.r (by rw [B1.n (by decide), hC]) (by omega) (by rw [← hC]; exact B1.nm.2.1) (by omega) rfl (fun j hj => (nmP (p := j) (q := pC c p) (by omega) (by omega) (by omega)).2.1) (fun j hj => (nmL (by omega)).2.1) (nI_neg' (by omega))) (fun r τ2 g2 => ?_)
  obtain ⟨rfl, k2, R2⟩ := g2
  have B2 := B1.rd k2
  rw [if_neg (nI_neg (by omega)), c_ck R2.fin, chk_true]
  unfold tkA at R2
  by_cases q : pA c p = true
  · rw [if_pos q] at R2
    have R2 : RdT T n τ2 ((10, 0) :: (10 + pK c p, 0) :: (3, pV c p) :: (tkW c p ++ (2, 0) :: M)) := R2
    have et : gR τ2 25 4 = 1010 := R2.tk
    rw [et, show ckV 1010 = true by decide, chk_true, show (ckT 1010 && ckT 1010) = true by decide, chk_true, if_pos rfl, chk_true]
    refine ok_bnd (r_st R2) (fun _ τ3 g3 => ?_)
    obtain ⟨k3, R3⟩ := g3
    have := p_68 (p := p) R3 (B2.rd k3) ((k1.trans k2).trans k3) hC hp hp5
    rw [show xA c p = -2 from if_pos q, show yA c p = -2 from if_pos q] at this
    exact this
  · rw [if_neg q] at R2
    have R2 : RdT T n τ2 ((4, plN (pX c p)) :: (4, plN (pY c p)) :: (10 + pK c p, 0) :: (3, pV c p) :: (tkW c p ++ (2, 0) :: M)) := R2
    have et : gR τ2 25 4 = 1004 := R2.tk
    rw [et, show ckV 1004 = true by decide, chk_true, show (ckT 1004 && ckT 1010) = true by decide, chk_true, if_neg (by decide), chk_true]
    refine ok_bnd (r_pl (q := pX c p) (f := plN) R2 isB14 B2.r (by rw [B2.n (by decide), hP]) (by omega) (by rw [← hP]; exact B2.nm.1) (by omega) rfl (fun j hj => (nmP (p := j) (q := pX c p) (by omega) (by omega) (by omega)).1) (fun j hj => (nmL (by omega)).1) (nI_neg' (by omega))) (fun r τ3 g3 => ?_)
    obtain ⟨rfl, k3, R3⟩ := g3
    have B3 := B2.rd k3
    rw [if_neg (nI_neg (by omega)), c_ck R3.fin, chk_true]
    refine ok_bnd (r_pl (q := pY c p) (f := plN) R3 isB14 B3.r (by rw [B3.n (by decide), hP]) (by omega) (by rw [← hP]; exact B3.nm.1) (by omega) rfl (fun j hj => (nmP (p := j) (q := pY c p) (by omega) (by omega) (by omega)).1) (fun j hj => (nmL (by omega)).1) (fun z => hxy ((nI_eq (by omega) (by omega)).mp z).symm)) (fun r τ4 g4 => ?_)
    obtain ⟨rfl, k4, R4⟩ := g4
    unfold DX3_readProviso_60
    rw [if_neg (nI_neg (by omega))]
    have := p_68 (p := p) R4 (B3.rd k4) (((k1.trans k2).trans k3).trans k4) hC hp hp5
    rw [show xA c p = nI (pX c p) from if_neg q, show yA c p = nI (pY c p) from if_neg q] at this
    exact this
end

/-! prorating looks at the coupons fl to n only -/
def RTE (fl n : Nat) (r r' : RT) : Prop := (∀ k, fl ≤ k → k < n → r.1 k = r'.1 k ∧ r.2.1 k = r'.2.1 k ∧ r.2.2.1 k = r'.2.2.1 k) ∧ r.2.2.2.1 = r'.2.2.2.1 ∧ r.2.2.2.2 = r'.2.2.2.2
theorem FG_congr {fc fc' : Nat → Int} {bv bv' : Nat → Int32} {g : Int32} {fl n : Nat} (h1 : ∀ k, fl ≤ k → k < n → fc k = fc' k) (h : ∀ k, fl ≤ k → k < n → bv k = bv' k) : FG fc bv g fl n = FG fc' bv' g fl n := by
  by_cases hn : fl ≤ n
  · exact sI_congr (n - fl) fl (fun k a b => by unfold opG; rw [h k a (by omega), h1 k a (by omega)])
  · unfold FG
    rw [show n - fl = 0 by omega]
    rfl
theorem rte_end {fl n : Nat} {fc fc' wh wh' : Nat → Int} {bv bv' : Nat → Int32} {g : Int32} {pool : Int} {rn : Nat} (h1 : ∀ k, fl ≤ k → k < n → fc k = fc' k) (h2 : ∀ k, fl ≤ k → k < n → bv k = bv' k) (h3 : ∀ k, fl ≤ k → k < n → wh k = wh' k) :
    RTE fl n (bv, wh, ptA bv g pool fc, FG fc bv g fl n, rn) (bv', wh', ptA bv' g pool fc', FG fc' bv' g fl n, rn) :=
  ⟨fun k a b => ⟨h2 k a b, h3 k a b, by show ptA bv g pool fc k = ptA bv' g pool fc' k; unfold ptA; rw [h2 k a b, h1 k a b]⟩, FG_congr h1 h2, rfl⟩
theorem mo_congr {fl n : Nat} {kd kd' : Nat → Int32} {vl vl' fc fc' : Nat → Int} (hn : fl ≤ n) (h1 : ∀ k, fl ≤ k → k < n → kd k = kd' k) (h2 : ∀ k, fl ≤ k → k < n → vl k = vl' k) (h3 : ∀ k, fl ≤ k → k < n → fc k = fc' k) :
    ∀ (d : Nat) (bv bv' : Nat → Int32) (wh wh' : Nat → Int) (pool : Int) (rn : Nat), (∀ k, fl ≤ k → k < n → bv k = bv' k) → (∀ k, fl ≤ k → k < n → wh k = wh' k) → RTE fl n (moF kd vl fc fl n d bv wh pool rn) (moF kd' vl' fc' fl n d bv' wh' pool rn) := by
  intro d
  induction d with
  | zero => intro bv bv' wh wh' pool rn h4 h5; exact rte_end h3 h4 h5
  | succ d ih =>
    intro bv bv' wh wh' pool rn h4 h5
    have eb := bS_congr (w := 4) (pool := pool) hn h1 h2 h3 h4
    have eB : ∀ k, fl ≤ k → k < n → beyB kd vl fc 4 bv pool (FS fc bv fl n) k = beyB kd' vl' fc' 4 bv' pool (FS fc' bv' fl n) k := fun k a b => by
      rw [FS_congr h3 h4]
      exact beyB_congr (h1 k a b) (h2 k a b) (h3 k a b) (h4 k a b)
    have eu : ∀ k, fl ≤ k → k < n → upB (beyB kd vl fc 4 bv pool (FS fc bv fl n)) 4 bv k = upB (beyB kd' vl' fc' 4 bv' pool (FS fc' bv' fl n)) 4 bv' k := fun k a b => by
      unfold upB
      rw [eB k a b, h4 k a b]
    have ew : ∀ k, fl ≤ k → k < n → upW (beyB kd vl fc 4 bv pool (FS fc bv fl n)) vl wh k = upW (beyB kd' vl' fc' 4 bv' pool (FS fc' bv' fl n)) vl' wh' k := fun k a b => by
      unfold upW
      rw [eB k a b, h5 k a b, h2 k a b]
    rw [moF, moF, eb]
    by_cases c1 : bS kd' vl' fc' 4 bv' pool fl n = 0
    · rw [if_pos c1, if_pos c1]
      exact rte_end h3 h4 h5
    · rw [if_neg c1, if_neg c1, FG_congr h3 eu]
      by_cases c2 : FG fc' (upB (beyB kd' vl' fc' 4 bv' pool (FS fc' bv' fl n)) 4 bv') 0 fl n = 0
      · rw [if_pos c2, if_pos c2]
        exact rte_end h3 eu ew
      · rw [if_neg c2, if_neg c2]
        exact ih _ _ _ _ _ _ eu ew
theorem ls_congr {fl n : Nat} {kd kd' : Nat → Int32} {vl vl' fc fc' : Nat → Int} (hn : fl ≤ n) (h1 : ∀ k, fl ≤ k → k < n → kd k = kd' k) (h2 : ∀ k, fl ≤ k → k < n → vl k = vl' k) (h3 : ∀ k, fl ≤ k → k < n → fc k = fc' k) :
    ∀ (d : Nat) (bv bv' : Nat → Int32) (wh wh' : Nat → Int) (pool : Int) (rn : Nat), (∀ k, fl ≤ k → k < n → bv k = bv' k) → (∀ k, fl ≤ k → k < n → wh k = wh' k) → RTE fl n (lsF kd vl fc fl n d bv wh pool rn) (lsF kd' vl' fc' fl n d bv' wh' pool rn) := by
  intro d
  induction d with
  | zero => intro bv bv' wh wh' pool rn h4 h5; exact mo_congr hn h1 h2 h3 8 _ _ _ _ _ _ h4 h5
  | succ d ih =>
    intro bv bv' wh wh' pool rn h4 h5
    have eb := bS_congr (w := 3) (pool := pool) hn h1 h2 h3 h4
    have eB : ∀ k, fl ≤ k → k < n → beyB kd vl fc 3 bv pool (FS fc bv fl n) k = beyB kd' vl' fc' 3 bv' pool (FS fc' bv' fl n) k := fun k a b => by
      rw [FS_congr h3 h4]
      exact beyB_congr (h1 k a b) (h2 k a b) (h3 k a b) (h4 k a b)
    have eu : ∀ k, fl ≤ k → k < n → upB (beyB kd vl fc 3 bv pool (FS fc bv fl n)) 3 bv k = upB (beyB kd' vl' fc' 3 bv' pool (FS fc' bv' fl n)) 3 bv' k := fun k a b => by
      unfold upB
      rw [eB k a b, h4 k a b]
    have ew : ∀ k, fl ≤ k → k < n → upW (beyB kd vl fc 3 bv pool (FS fc bv fl n)) vl wh k = upW (beyB kd' vl' fc' 3 bv' pool (FS fc' bv' fl n)) vl' wh' k := fun k a b => by
      unfold upW
      rw [eB k a b, h5 k a b, h2 k a b]
    rw [lsF, lsF, eb]
    by_cases c1 : bS kd' vl' fc' 3 bv' pool fl n = 0
    · rw [if_pos c1, if_pos c1]
      exact mo_congr hn h1 h2 h3 8 _ _ _ _ _ _ h4 h5
    · rw [if_neg c1, if_neg c1]
      by_cases c2 : pool < bS kd' vl' fc' 3 bv' pool fl n
      · rw [if_pos c2, if_pos c2]
        exact ⟨fun k a b => ⟨eu k a b, h5 k a b, by show (if _ then _ else _) = (if _ then _ else _); rw [eB k a b, h2 k a b]⟩, rfl, rfl⟩
      · rw [if_neg c2, if_neg c2]
        exact ih _ _ _ _ _ _ eu ew
theorem pr_congr {fl n : Nat} {P : Int} {kd kd' : Nat → Int32} {vl vl' fc fc' : Nat → Int} (hn : fl ≤ n) (h1 : ∀ k, fl ≤ k → k < n → kd k = kd' k) (h2 : ∀ k, fl ≤ k → k < n → vl k = vl' k) (h3 : ∀ k, fl ≤ k → k < n → fc k = fc' k) : RTE fl n (prF kd vl fc fl n P) (prF kd' vl' fc' fl n P) := by
  have ei : ∀ k, fl ≤ k → k < n → isF kd k = isF kd' k := fun k a b => by unfold isF; rw [h1 k a b]
  have e1 : fiS kd vl fl n = fiS kd' vl' fl n := sI_congr _ _ (fun k a b => by rw [ei k a (by omega), h2 k a (by omega)])
  have e2 : cN (fun k => !isF kd k) fl (n - fl) = cN (fun k => !isF kd' k) fl (n - fl) := cN_congr _ _ (fun k a b => by rw [ei k a (by omega)])
  have e3 : ∀ k, fl ≤ k → k < n → by1 kd k = by1 kd' k := fun k a b => by unfold by1; rw [ei k a b, h1 k a b]
  have e4 : ∀ k, fl ≤ k → k < n → whF kd vl k = whF kd' vl' k := fun k a b => by unfold whF; rw [ei k a b, h2 k a b]
  unfold prF
  rw [e1, e2]
  by_cases c1 : P < fiS kd' vl' fl n
  · rw [if_pos c1, if_pos c1]
    exact ⟨fun k a b => ⟨e3 k a b, rfl, by show (if _ then _ else _) = (if _ then _ else _); rw [ei k a b, h2 k a b]⟩, rfl, rfl⟩
  · rw [if_neg c1, if_neg c1]
    by_cases c2 : cN (fun k => !isF kd' k) fl (n - fl) = 0
    · rw [if_pos c2, if_pos c2]
      refine ⟨fun k a b => ⟨e3 k a b, e4 k a b, by show (if _ then _ else _) = (if _ then _ else _); rw [ei k a b, h3 k a b]⟩, ?_, rfl⟩
      show (if _ then _ else _) = (if _ then _ else _)
      rw [sI_congr (n - fl) fl (fun k a b => h3 k a (by omega))]
    · rw [if_neg c2, if_neg c2]
      exact ls_congr hn h1 h2 h3 8 _ _ _ _ _ _ e3 e4
theorem lf_congr {fl n : Nat} {P : Int} {r r' : RT} (h : RTE fl n r r') : lfF r fl n P = lfF r' fl n P := by
  unfold lfF
  rw [h.2.1]
  congr 1
  exact sI_congr _ _ (fun k a b => by rw [(h.1 k a (by omega)).2.1, (h.1 k a (by omega)).2.2])
/-- what prorate leaves -/
def PRQ (σ : Sg) (b t n fl nb np nba : Nat) (P0 : Int) (r : RT) (υ : Sg) : Prop :=
  Fr (fF [(36, 15), (36, 16), (36, 17)]) (fA [38, 39, 40, 41, 42, 43, 44, 45]) σ υ ∧
  (∀ k, k < n → aI υ 38 k = phK σ b t n np k ∧ aI υ 39 k = kdK σ b t n np k ∧ (aJ υ 41 k).toInt = vlK σ b t n np k ∧ (aJ υ 42 k).toInt = fcK σ b t nb nba k) ∧
  (∀ k, k < fl → aI υ 40 k = 5 ∧ aI υ 43 k = aI σ 43 k) ∧
  (∀ k, fl ≤ k → k < n → aI υ 40 k = r.1 k ∧ (aI υ 43 k).toInt = r.2.1 k + r.2.2.1 k / r.2.2.2.1 + if (rk (fun k => r.2.2.1 k % r.2.2.2.1) fl n k : Int) < lfF r fl n P0 then 1 else 0) ∧
  gI υ 36 16 = nI r.2.2.2.2 ∧ (gI υ 36 17).toInt = lfF r fl n P0
theorem s_prorate {σ : Sg} {b t n fl nb np nba : Nat} (h : PrS σ b t n fl nb np nba) (hB : PrB σ b t n fl nb np nba) (hall : fl = n → sI (fun k => (aI σ 43 k).toInt) 0 fl = (aG σ (b + 9) t 0).toInt) :
    Ok (DX5_prorate 36 σ) (fun _ υ => PRQ σ b t n fl nb np nba ((aG σ (b + 9) t 0).toInt - sI (fun k => (aI σ 43 k).toInt) 0 fl)
      (prF (kdK σ b t n np) (vlK σ b t n np) (fcK σ b t nb nba) fl n ((aG σ (b + 9) t 0).toInt - sI (fun k => (aI σ 43 k).toInt) 0 fl)) υ) := by
  have h' := h
  obtain ⟨hF, hb, e0, e1, ht, e2, hn, e3, hfl, b4, hnb, b5, hnp, b6, hnba, st⟩ := h'
  have hBB := hB
  obtain ⟨B1, B2, B3, B4, B5, B6, B7⟩ := hBB
  have s0 := sI_nn (f := fun k => (aI σ 43 k).toInt) fl 0 (fun k _ hk => B6 k (by omega))
  -- the first writes
  have fx : Fr (fF [(36, 15), (36, 16)]) (fA []) σ (pJ (pI σ 36 16 0) 36 15 (aG σ (b + 9) t 0).toInt64) := (Fr.rf.pI 36 16 0 rfl).pJ 36 15 _ rfl
  have hF1 : Fin0 (pI σ 36 16 0) := (Fr.rf (F := fF [(36, 16)]) (A := fA []) |>.pI 36 16 0 rfl).fin hF (by decide)
  have ef := s_fare hF1 hb ht
  have h1 : PrS (pJ (pI σ 36 16 0) 36 15 (aG σ (b + 9) t 0).toInt64) b t n fl nb np nba := by
    refine ⟨fx.fin hF (by decide), hb, e0, e1, ht, e2, hn, e3, hfl, ?_, hnb, ?_, hnp, ?_, hnba, st⟩
    · rw [← b4]; rcases hb with rfl | rfl <;> rfl
    · rw [← b5]; rcases hb with rfl | rfl <;> rfl
    · rw [← b6]; rcases hb with rfl | rfl <;> rfl
  have eb7 : gI (pJ (pI σ 36 16 0) 36 15 (aG σ (b + 9) t 0).toInt64) b 7 = gI σ b 7 := by rcases hb with rfl | rfl <;> rfl
  have eph : ∀ k, phK (pJ (pI σ 36 16 0) 36 15 (aG σ (b + 9) t 0).toInt64) b t n np k = phK σ b t n np k := fun k => rfl
  have efc : ∀ k, fcK (pJ (pI σ 36 16 0) 36 15 (aG σ (b + 9) t 0).toInt64) b t nb nba k = fcK σ b t nb nba k := fun k => by
    unfold fcK
    rw [eb7]
    rfl
  have hB1 : PrB (pJ (pI σ 36 16 0) 36 15 (aG σ (b + 9) t 0).toInt64) b t n fl nb np nba := by
    refine ⟨B1, by rw [eb7]; exact B2, B3, B4, fun k hk => ?_, B6, B7⟩
    rw [efc]
    exact B5 k hk
  unfold DX5_prorate
  simp (disch := first | assumption | omega) only [ok_chk, ok_let, ckO, ckI, ckZ, ckJ, ckG, ckR, ckL, ckV, e0, e1, gI_pI, gJ_pI, gR_pI, aI_pI, aJ_pI, aG_pI, gN_pI, gF_pI, gM_pI, gZ_pI, tl_pI, gI_pJ, gJ_pJ, gR_pJ, aI_pJ, aJ_pJ, aG_pJ, gN_pJ, gF_pJ, gM_pJ, gZ_pJ, tl_pJ, gI_pR, gJ_pR, gR_pR, aI_pR, aJ_pR, aG_pR, gN_pR, gF_pR, gM_pR, gZ_pR, tl_pR, gI_wI, gJ_wI, gR_wI, aI_wI, aJ_wI, aG_wI, gN_wI, gF_wI, gM_wI, gZ_wI, tl_wI, gI_wJ, gJ_wJ, gR_wJ, aI_wJ, aJ_wJ, aG_wJ, gN_wJ, gF_wJ, gM_wJ, gZ_wJ, tl_wJ, gI_wG, gJ_wG, gR_wG, aI_wG, aJ_wG, aG_wG, gN_wG, gF_wG, gM_wG, gZ_wG, tl_wG, gS_pI, gS_pJ, gS_pR, gS_wI, gS_wJ, gS_wG, fr_25_0, fr_26_0, fr_26_1, fr_26_2, fr_26_3, fr_26_4, fr_26_5, fr_26_6, fr_26_7, fr_26_8, fr_36_6, fr_36_7, fr_36_8, fr_36_9, fr_36_10, fr_36_11, fr_36_12, fr_36_13, fr_36_14, fr_46_0, fr_46_1, fr_1_0, fr_1_4, fr_1_5, fr_1_6, fr_1_7, fr_1_8, fr_1_9, fr_b_10, fr_b_11, fr_b_12, fr_b_13, fr_b_14, fr_b_15, fr_b_16, fr_b_17, fr_b_18, fr_b_19, fin_pI, fin_pJ, fin_wI, fin_wJ, fin_wG, sh_b_1, lt_b_1, sh_b_2, lt_b_2, sh_b_3, lt_b_3, sh_b_4, lt_b_4, sh_b_5, lt_b_5, sh_b_6, lt_b_6, sh_b_7, lt_b_7, sh_b_8, lt_b_8, sh_b_9, lt_b_9, sh_b_10, lt_b_10, sh_b, lt_b, nz_b, finN, sh_1, sh_2, sh_25, sh_26, sh_27, sh_28, sh_29, sh_30, sh_31, sh_32, sh_33, sh_34, sh_35, sh_36, sh_37, sh_38, sh_39, sh_40, sh_41, sh_42, sh_43, sh_44, sh_45, sh_46, sh_47, sh_48, sh_49, sh_50, mul_nI_2, mul_nI_3, mul_nI_4, mul_nI_6, mul_nI_8, mul_nI_10, mul_nI_11, mul_nI_12, mul_nI_27, mul_nI_36, mul_nI_242, add_nI_0, dda_nI_0, add_nI_1, dda_nI_1, add_nI_2, dda_nI_2, add_nI_3, dda_nI_3, add_nI_4, dda_nI_4, add_nI_5, dda_nI_5, add_nI_6, dda_nI_6, add_nI_8, dda_nI_8, add_nI_12, dda_nI_12, add_nI_64, dda_nI_64, add_nI_128, dda_nI_128, add_nI_192, dda_nI_192, add_nI_228, dda_nI_228, add_nI_234, dda_nI_234, add_nI_242, dda_nI_242, sub_nI_1, sub_nI_2, sub_nI_20, sub_nI_242, inb_0, ixl_0, inb_1, ixl_1, inb_2, ixl_2, inb_3, ixl_3, inb_4, ixl_4, inb_5, ixl_5, inb_6, ixl_6, inb_7, ixl_7, inb_8, ixl_8, inb_9, ixl_9, inb_10, ixl_10, inb_11, ixl_11, nI_add, pk_mul, ixn, inbn, le_l0, l0_le, lt_l0, l0_lt, eq_l0, l0_eq, le_l1, l1_le, lt_l1, l1_lt, eq_l1, l1_eq, le_l2, l2_le, lt_l2, l2_lt, eq_l2, l2_eq, le_l3, l3_le, lt_l3, l3_lt, eq_l3, l3_eq, le_l4, l4_le, lt_l4, l4_lt, eq_l4, l4_eq, le_l5, l5_le, lt_l5, l5_lt, eq_l5, l5_eq, le_l6, l6_le, lt_l6, l6_lt, eq_l6, l6_eq, le_l8, l8_le, lt_l8, l8_lt, eq_l8, l8_eq, le_l9, l9_le, lt_l9, l9_lt, eq_l9, l9_eq, le_l10, l10_le, lt_l10, l10_lt, eq_l10, l10_eq, le_l11, l11_le, lt_l11, l11_lt, eq_l11, l11_eq, le_l12, l12_le, lt_l12, l12_lt, eq_l12, l12_eq, le_l14, l14_le, lt_l14, l14_lt, eq_l14, l14_eq, le_l16, l16_le, lt_l16, l16_lt, eq_l16, l16_eq, le_l20, l20_le, lt_l20, l20_lt, eq_l20, l20_eq, le_l24, l24_le, lt_l24, l24_lt, eq_l24, l24_eq, le_l64, l64_le, lt_l64, l64_lt, eq_l64, l64_eq, le_l72, l72_le, lt_l72, l72_lt, eq_l72, l72_eq, le_l242, l242_le, lt_l242, l242_lt, eq_l242, l242_eq, le_l1180, l1180_le, lt_l1180, l1180_lt, eq_l1180, l1180_eq, le_l1200, l1200_le, lt_l1200, l1200_lt, eq_l1200, l1200_eq, le_l3388, l3388_le, lt_l3388, l3388_lt, eq_l3388, l3388_eq, le_l200000, l200000_le, lt_l200000, l200000_lt, eq_l200000, l200000_eq, le_l1000000, l1000000_le, lt_l1000000, l1000000_lt, eq_l1000000, l1000000_eq, le_nI, lt_nI, eq_nI, decide_true, decide_eq_true_eq, Bool.and_true, Bool.true_and, and_true, true_and, if_true, if_false, ite_true, ite_false, decide_false, ne_eq, not_false_eq_true, not_true_eq_false, reduceCtorEq, Nat.reduceLT, Nat.reduceEqDiff, Nat.reduceMul, Nat.reduceAdd]
  refine ok_bnd_eq ef ?_
  rw [show aG (pI σ 36 16 0) (b + 9) t 0 = aG σ (b + 9) t 0 from rfl]
  simp (disch := first | assumption | omega) only [ok_chk, ok_let, ckO, ckI, ckZ, ckJ, ckG, ckR, ckL, ckV, gI_pI, gJ_pI, gR_pI, aI_pI, aJ_pI, aG_pI, gN_pI, gF_pI, gM_pI, gZ_pI, tl_pI, gI_pJ, gJ_pJ, gR_pJ, aI_pJ, aJ_pJ, aG_pJ, gN_pJ, gF_pJ, gM_pJ, gZ_pJ, tl_pJ, gI_pR, gJ_pR, gR_pR, aI_pR, aJ_pR, aG_pR, gN_pR, gF_pR, gM_pR, gZ_pR, tl_pR, gI_wI, gJ_wI, gR_wI, aI_wI, aJ_wI, aG_wI, gN_wI, gF_wI, gM_wI, gZ_wI, tl_wI, gI_wJ, gJ_wJ, gR_wJ, aI_wJ, aJ_wJ, aG_wJ, gN_wJ, gF_wJ, gM_wJ, gZ_wJ, tl_wJ, gI_wG, gJ_wG, gR_wG, aI_wG, aJ_wG, aG_wG, gN_wG, gF_wG, gM_wG, gZ_wG, tl_wG, gS_pI, gS_pJ, gS_pR, gS_wI, gS_wJ, gS_wG, fr_25_0, fr_26_0, fr_26_1, fr_26_2, fr_26_3, fr_26_4, fr_26_5, fr_26_6, fr_26_7, fr_26_8, fr_36_6, fr_36_7, fr_36_8, fr_36_9, fr_36_10, fr_36_11, fr_36_12, fr_36_13, fr_36_14, fr_46_0, fr_46_1, fr_1_0, fr_1_4, fr_1_5, fr_1_6, fr_1_7, fr_1_8, fr_1_9, fr_b_10, fr_b_11, fr_b_12, fr_b_13, fr_b_14, fr_b_15, fr_b_16, fr_b_17, fr_b_18, fr_b_19, fin_pI, fin_pJ, fin_wI, fin_wJ, fin_wG, sh_b_1, lt_b_1, sh_b_2, lt_b_2, sh_b_3, lt_b_3, sh_b_4, lt_b_4, sh_b_5, lt_b_5, sh_b_6, lt_b_6, sh_b_7, lt_b_7, sh_b_8, lt_b_8, sh_b_9, lt_b_9, sh_b_10, lt_b_10, sh_b, lt_b, nz_b, finN, sh_1, sh_2, sh_25, sh_26, sh_27, sh_28, sh_29, sh_30, sh_31, sh_32, sh_33, sh_34, sh_35, sh_36, sh_37, sh_38, sh_39, sh_40, sh_41, sh_42, sh_43, sh_44, sh_45, sh_46, sh_47, sh_48, sh_49, sh_50, mul_nI_2, mul_nI_3, mul_nI_4, mul_nI_6, mul_nI_8, mul_nI_10, mul_nI_11, mul_nI_12, mul_nI_27, mul_nI_36, mul_nI_242, add_nI_0, dda_nI_0, add_nI_1, dda_nI_1, add_nI_2, dda_nI_2, add_nI_3, dda_nI_3, add_nI_4, dda_nI_4, add_nI_5, dda_nI_5, add_nI_6, dda_nI_6, add_nI_8, dda_nI_8, add_nI_12, dda_nI_12, add_nI_64, dda_nI_64, add_nI_128, dda_nI_128, add_nI_192, dda_nI_192, add_nI_228, dda_nI_228, add_nI_234, dda_nI_234, add_nI_242, dda_nI_242, sub_nI_1, sub_nI_2, sub_nI_20, sub_nI_242, inb_0, ixl_0, inb_1, ixl_1, inb_2, ixl_2, inb_3, ixl_3, inb_4, ixl_4, inb_5, ixl_5, inb_6, ixl_6, inb_7, ixl_7, inb_8, ixl_8, inb_9, ixl_9, inb_10, ixl_10, inb_11, ixl_11, nI_add, pk_mul, ixn, inbn, le_l0, l0_le, lt_l0, l0_lt, eq_l0, l0_eq, le_l1, l1_le, lt_l1, l1_lt, eq_l1, l1_eq, le_l2, l2_le, lt_l2, l2_lt, eq_l2, l2_eq, le_l3, l3_le, lt_l3, l3_lt, eq_l3, l3_eq, le_l4, l4_le, lt_l4, l4_lt, eq_l4, l4_eq, le_l5, l5_le, lt_l5, l5_lt, eq_l5, l5_eq, le_l6, l6_le, lt_l6, l6_lt, eq_l6, l6_eq, le_l8, l8_le, lt_l8, l8_lt, eq_l8, l8_eq, le_l9, l9_le, lt_l9, l9_lt, eq_l9, l9_eq, le_l10, l10_le, lt_l10, l10_lt, eq_l10, l10_eq, le_l11, l11_le, lt_l11, l11_lt, eq_l11, l11_eq, le_l12, l12_le, lt_l12, l12_lt, eq_l12, l12_eq, le_l14, l14_le, lt_l14, l14_lt, eq_l14, l14_eq, le_l16, l16_le, lt_l16, l16_lt, eq_l16, l16_eq, le_l20, l20_le, lt_l20, l20_lt, eq_l20, l20_eq, le_l24, l24_le, lt_l24, l24_lt, eq_l24, l24_eq, le_l64, l64_le, lt_l64, l64_lt, eq_l64, l64_eq, le_l72, l72_le, lt_l72, l72_lt, eq_l72, l72_eq, le_l242, l242_le, lt_l242, l242_lt, eq_l242, l242_eq, le_l1180, l1180_le, lt_l1180, l1180_lt, eq_l1180, l1180_eq, le_l1200, l1200_le, lt_l1200, l1200_lt, eq_l1200, l1200_eq, le_l3388, l3388_le, lt_l3388, l3388_lt, eq_l3388, l3388_eq, le_l200000, l200000_le, lt_l200000, l200000_lt, eq_l200000, l200000_eq, le_l1000000, l1000000_le, lt_l1000000, l1000000_lt, eq_l1000000, l1000000_eq, le_nI, lt_nI, eq_nI, decide_true, decide_eq_true_eq, Bool.and_true, Bool.true_and, and_true, true_and, if_true, if_false, ite_true, ite_false, decide_false, ne_eq, not_false_eq_true, not_true_eq_false, reduceCtorEq, Nat.reduceLT, Nat.reduceEqDiff, Nat.reduceMul, Nat.reduceAdd]
  refine s_pr23 h1 hB1 (fun υ hI => ?_) n 0 FU _ (by omega) (by unfold FU; omega) ⟨Fr.rf, fun k hk => by omega, fun _ _ => rfl, ?_⟩
  · have hP := h1.fr hI.1
    obtain ⟨i1, i2, i3, i4⟩ := hI
    rw [show min n fl = fl by omega] at i4
    have hC : ShC υ n fl := ⟨hP.fin, hP.e2, hP.e3, hfl, hn⟩
    have hp : spl υ = (aG σ (b + 9) t 0).toInt - sI (fun k => (aI σ 43 k).toInt) 0 fl := i4
    have ekd : ∀ k, k < n → aI υ 39 k = kdK σ b t n np k := fun k hk => (i2 k hk).2.1
    have evl : ∀ k, k < n → svl υ k = vlK σ b t n np k := fun k hk => (i2 k hk).2.2.1
    have efc' : ∀ k, k < n → sfc υ k = fcK σ b t nb nba k := fun k hk => ((i2 k hk).2.2.2.1).trans (efc k)
    have hL : Lim υ n fl := by
      refine ⟨fun k a c => ?_, ?_, ?_⟩
      · have q := B5 k c
        rw [show (aJ υ 41 k).toInt = _ from evl k c, show (aJ υ 42 k).toInt = _ from efc' k c]
        exact ⟨q.2.1, q.1⟩
      · show 0 ≤ spl υ
        rw [hp]; omega
      · show spl υ ≤ 9999999
        rw [hp]; omega
    have h1' : Li1 υ n fl := fun k a c z => by
      rw [evl k c]
      rw [ekd k c] at z
      exact (B5 k c).2.2 z
    have hs : StC υ n fl (fun _ => 0) (fun _ => 0) := fun k a c => by
      obtain ⟨z1, z2, z3⟩ := (i2 k c).2.2.2.2.1 a
      exact ⟨z1, by rw [z2]; rfl, z3, by simp, by simp⟩
    have e16 : gI υ 36 16 = nI 0 := (i1.I 36 16 rfl).trans (by simp [gI_pI, gJ_pI, gR_pI, aI_pI, aJ_pI, aG_pI, gN_pI, gF_pI, gM_pI, gZ_pI, tl_pI, gI_pJ, gJ_pJ, gR_pJ, aI_pJ, aJ_pJ, aG_pJ, gN_pJ, gF_pJ, gM_pJ, gZ_pJ, tl_pJ, gI_pR, gJ_pR, gR_pR, aI_pR, aJ_pR, aG_pR, gN_pR, gF_pR, gM_pR, gZ_pR, tl_pR, gI_wI, gJ_wI, gR_wI, aI_wI, aJ_wI, aG_wI, gN_wI, gF_wI, gM_wI, gZ_wI, tl_wI, gI_wJ, gJ_wJ, gR_wJ, aI_wJ, aJ_wJ, aG_wJ, gN_wJ, gF_wJ, gM_wJ, gZ_wJ, tl_wJ, gI_wG, gJ_wG, gR_wG, aI_wG, aJ_wG, aG_wG, gN_wG, gF_wG, gM_wG, gZ_wG, tl_wG, gS_pI, gS_pJ, gS_pR, gS_wI, gS_wJ, gS_wG, fr_25_0, fr_26_0, fr_26_1, fr_26_2, fr_26_3, fr_26_4, fr_26_5, fr_26_6, fr_26_7, fr_26_8, fr_36_6, fr_36_7, fr_36_8, fr_36_9, fr_36_10, fr_36_11, fr_36_12, fr_36_13, fr_36_14, fr_46_0, fr_46_1, fr_1_0, fr_1_4, fr_1_5, fr_1_6, fr_1_7, fr_1_8, fr_1_9, fr_b_10, fr_b_11, fr_b_12, fr_b_13, fr_b_14, fr_b_15, fr_b_16, fr_b_17, fr_b_18, fr_b_19, fin_pI, fin_pJ, fin_wI, fin_wJ, fin_wG, sh_b_1, lt_b_1, sh_b_2, lt_b_2, sh_b_3, lt_b_3, sh_b_4, lt_b_4, sh_b_5, lt_b_5, sh_b_6, lt_b_6, sh_b_7, lt_b_7, sh_b_8, lt_b_8, sh_b_9, lt_b_9, sh_b_10, lt_b_10, sh_b, lt_b, nz_b, finN]; rfl)
    refine s_119 hC hL h1' hs e16 (fun ω hw => ?_)
    obtain ⟨w1, w2, w3, w4, w5⟩ := hw
    have hE := pr_congr (P := (aG σ (b + 9) t 0).toInt - sI (fun k => (aI σ 43 k).toInt) 0 fl) hfl (fun k a c => ekd k c) (fun k a c => evl k c) (fun k a c => efc' k c)
    rw [hp] at w3 w4 w5
    have hOK := pr_ok (kd := kdK σ b t n np) (vl := vlK σ b t n np) (fc := fcK σ b t nb nba) (P0 := (aG σ (b + 9) t 0).toInt - sI (fun k => (aI σ 43 k).toInt) 0 fl) hfl (by omega) (fun z => by rw [hall z]; omega) (fun k a c => (B5 k c).2.1) (fun k a c => (B5 k c).1.1)
    have hlb := lf_bd hOK
    have hle := lf_congr (P := (aG σ (b + 9) t 0).toInt - sI (fun k => (aI σ 43 k).toInt) 0 fl) hE
    obtain ⟨hE1, hE2, hE3⟩ := hE
    rw [hE3] at w5
    have w4' : spl ω = lfF (prF (kdK σ b t n np) (vlK σ b t n np) (fcK σ b t nb nba) fl n ((aG σ (b + 9) t 0).toInt - sI (fun k => (aI σ 43 k).toInt) 0 fl)) fl n ((aG σ (b + 9) t 0).toInt - sI (fun k => (aI σ 43 k).toInt) 0 fl) := w4.trans hle
    generalize prF (kdK σ b t n np) (vlK σ b t n np) (fcK σ b t nb nba) fl n ((aG σ (b + 9) t 0).toInt - sI (fun k => (aI σ 43 k).toInt) 0 fl) = r at *
    generalize prF (aI υ 39) (svl υ) (sfc υ) fl n ((aG σ (b + 9) t 0).toInt - sI (fun k => (aI σ 43 k).toInt) 0 fl) = r' at *
    generalize hP0 : (aG σ (b + 9) t 0).toInt - sI (fun k => (aI σ 43 k).toInt) 0 fl = P0 at *
    have hsh : ∀ k, fl ≤ k → k < n → (aI ω 43 k).toInt = r.2.1 k + r.2.2.1 k / r.2.2.2.1 ∧ (aJ ω 44 k).toInt = r.2.2.1 k % r.2.2.2.1 ∧ aI ω 40 k = r.1 k := fun k a c => by
      obtain ⟨z1, z2, z3⟩ := w3 k a c
      obtain ⟨y1, y2, y3⟩ := hE1 k a c
      rw [y2, y3, hE2] at z2
      rw [y3, hE2] at z3
      rw [y1] at z1
      exact ⟨z2, z3, z1⟩
    have hqb : ∀ k, fl ≤ k → k < n → 0 ≤ r.2.1 k + r.2.2.1 k / r.2.2.2.1 ∧ r.2.1 k + r.2.2.1 k / r.2.2.2.1 ≤ P0 := fun k a c => by
      have z0 : ∀ j, fl ≤ j → j < fl + (n - fl) → 0 ≤ (fun k => r.2.1 k + r.2.2.1 k / r.2.2.2.1) j := fun j a c => by
        have := (hOK.1 j a (by omega)).1
        have := Int.ediv_nonneg (hOK.1 j a (by omega)).2.2 (Int.le_of_lt hOK.2.1)
        show 0 ≤ r.2.1 j + r.2.2.1 j / r.2.2.2.1
        omega
      have z1 := sI_mem (n - fl) fl z0 k a (by omega)
      have z2 := hlb.1
      unfold lfF at z2
      have z3 := z0 k a (by omega)
      exact ⟨z3, by omega⟩
    have hC2 := hC.fr w1 (by decide) rfl rfl
    have hF2 := hC2.1
    have hLn : (gJ ω 36 15).toInt = ((lfF r fl n P0).toNat : Int) := by
      rw [Int.toNat_of_nonneg hlb.1]
      exact w4'
    have hLb : (lfF r fl n P0).toNat < 2147483648 := by
      have := hlb.2.1
      omega
    unfold DX5_prorate_145
    simp (disch := first | assumption | omega) only [ok_chk, ok_let, ckO, ckI, ckZ, ckJ, ckG, ckR, ckL, ckV, gI_pI, gJ_pI, gR_pI, aI_pI, aJ_pI, aG_pI, gN_pI, gF_pI, gM_pI, gZ_pI, tl_pI, gI_pJ, gJ_pJ, gR_pJ, aI_pJ, aJ_pJ, aG_pJ, gN_pJ, gF_pJ, gM_pJ, gZ_pJ, tl_pJ, gI_pR, gJ_pR, gR_pR, aI_pR, aJ_pR, aG_pR, gN_pR, gF_pR, gM_pR, gZ_pR, tl_pR, gI_wI, gJ_wI, gR_wI, aI_wI, aJ_wI, aG_wI, gN_wI, gF_wI, gM_wI, gZ_wI, tl_wI, gI_wJ, gJ_wJ, gR_wJ, aI_wJ, aJ_wJ, aG_wJ, gN_wJ, gF_wJ, gM_wJ, gZ_wJ, tl_wJ, gI_wG, gJ_wG, gR_wG, aI_wG, aJ_wG, aG_wG, gN_wG, gF_wG, gM_wG, gZ_wG, tl_wG, gS_pI, gS_pJ, gS_pR, gS_wI, gS_wJ, gS_wG, fr_25_0, fr_26_0, fr_26_1, fr_26_2, fr_26_3, fr_26_4, fr_26_5, fr_26_6, fr_26_7, fr_26_8, fr_36_6, fr_36_7, fr_36_8, fr_36_9, fr_36_10, fr_36_11, fr_36_12, fr_36_13, fr_36_14, fr_46_0, fr_46_1, fr_1_0, fr_1_4, fr_1_5, fr_1_6, fr_1_7, fr_1_8, fr_1_9, fr_b_10, fr_b_11, fr_b_12, fr_b_13, fr_b_14, fr_b_15, fr_b_16, fr_b_17, fr_b_18, fr_b_19, fin_pI, fin_pJ, fin_wI, fin_wJ, fin_wG, sh_b_1, lt_b_1, sh_b_2, lt_b_2, sh_b_3, lt_b_3, sh_b_4, lt_b_4, sh_b_5, lt_b_5, sh_b_6, lt_b_6, sh_b_7, lt_b_7, sh_b_8, lt_b_8, sh_b_9, lt_b_9, sh_b_10, lt_b_10, sh_b, lt_b, nz_b, finN, sh_1, sh_2, sh_25, sh_26, sh_27, sh_28, sh_29, sh_30, sh_31, sh_32, sh_33, sh_34, sh_35, sh_36, sh_37, sh_38, sh_39, sh_40, sh_41, sh_42, sh_43, sh_44, sh_45, sh_46, sh_47, sh_48, sh_49, sh_50, mul_nI_2, mul_nI_3, mul_nI_4, mul_nI_6, mul_nI_8, mul_nI_10, mul_nI_11, mul_nI_12, mul_nI_27, mul_nI_36, mul_nI_242, add_nI_0, dda_nI_0, add_nI_1, dda_nI_1, add_nI_2, dda_nI_2, add_nI_3, dda_nI_3, add_nI_4, dda_nI_4, add_nI_5, dda_nI_5, add_nI_6, dda_nI_6, add_nI_8, dda_nI_8, add_nI_12, dda_nI_12, add_nI_64, dda_nI_64, add_nI_128, dda_nI_128, add_nI_192, dda_nI_192, add_nI_228, dda_nI_228, add_nI_234, dda_nI_234, add_nI_242, dda_nI_242, sub_nI_1, sub_nI_2, sub_nI_20, sub_nI_242, inb_0, ixl_0, inb_1, ixl_1, inb_2, ixl_2, inb_3, ixl_3, inb_4, ixl_4, inb_5, ixl_5, inb_6, ixl_6, inb_7, ixl_7, inb_8, ixl_8, inb_9, ixl_9, inb_10, ixl_10, inb_11, ixl_11, nI_add, pk_mul, ixn, inbn, le_l0, l0_le, lt_l0, l0_lt, eq_l0, l0_eq, le_l1, l1_le, lt_l1, l1_lt, eq_l1, l1_eq, le_l2, l2_le, lt_l2, l2_lt, eq_l2, l2_eq, le_l3, l3_le, lt_l3, l3_lt, eq_l3, l3_eq, le_l4, l4_le, lt_l4, l4_lt, eq_l4, l4_eq, le_l5, l5_le, lt_l5, l5_lt, eq_l5, l5_eq, le_l6, l6_le, lt_l6, l6_lt, eq_l6, l6_eq, le_l8, l8_le, lt_l8, l8_lt, eq_l8, l8_eq, le_l9, l9_le, lt_l9, l9_lt, eq_l9, l9_eq, le_l10, l10_le, lt_l10, l10_lt, eq_l10, l10_eq, le_l11, l11_le, lt_l11, l11_lt, eq_l11, l11_eq, le_l12, l12_le, lt_l12, l12_lt, eq_l12, l12_eq, le_l14, l14_le, lt_l14, l14_lt, eq_l14, l14_eq, le_l16, l16_le, lt_l16, l16_lt, eq_l16, l16_eq, le_l20, l20_le, lt_l20, l20_lt, eq_l20, l20_eq, le_l24, l24_le, lt_l24, l24_lt, eq_l24, l24_eq, le_l64, l64_le, lt_l64, l64_lt, eq_l64, l64_eq, le_l72, l72_le, lt_l72, l72_lt, eq_l72, l72_eq, le_l242, l242_le, lt_l242, l242_lt, eq_l242, l242_eq, le_l1180, l1180_le, lt_l1180, l1180_lt, eq_l1180, l1180_eq, le_l1200, l1200_le, lt_l1200, l1200_lt, eq_l1200, l1200_eq, le_l3388, l3388_le, lt_l3388, l3388_lt, eq_l3388, l3388_eq, le_l200000, l200000_le, lt_l200000, l200000_lt, eq_l200000, l200000_eq, le_l1000000, l1000000_le, lt_l1000000, l1000000_lt, eq_l1000000, l1000000_eq, le_nI, lt_nI, eq_nI, decide_true, decide_eq_true_eq, Bool.and_true, Bool.true_and, and_true, true_and, if_true, if_false, ite_true, ite_false, decide_false, ne_eq, not_false_eq_true, not_true_eq_false, reduceCtorEq, Nat.reduceLT, Nat.reduceEqDiff, Nat.reduceMul, Nat.reduceAdd]
    refine ok_bnd (s_cents (r := fun k => r.2.2.1 k % r.2.2.2.1) hC2 hLn hLb (fun k a c => by rw [(hsh k a c).1]; have := hqb k a c; omega) (fun k a c => ⟨Int.emod_nonneg _ (by have := hOK.2.1; omega), (hsh k a c).2.1⟩)) (fun _ ρ hr => ?_)
    obtain ⟨r1, r2, r3, r4⟩ := hr
    have fe : Fr (fF [(36, 15), (36, 16), (36, 17)]) (fA [38, 39, 40, 41, 42, 43, 44, 45]) υ ρ := (w1.up rfl rfl).trans (r1.up rfl rfl)
    refine ok_some.mpr ⟨((fx.up rfl rfl).trans (i1.up rfl rfl)).trans fe, fun k hk => ?_, fun k hk => ?_, fun k a c => ?_, ?_, ?_⟩
    · obtain ⟨z1, z2, z3, z4, -⟩ := i2 k hk
      refine ⟨((r1.aI 38 rfl k).trans (w1.aI 38 rfl k)).trans z1, ((r1.aI 39 rfl k).trans (w1.aI 39 rfl k)).trans z2, ?_, ?_⟩
      · rw [r1.aJ 41 rfl k, w1.aJ 41 rfl k]
        exact z3
      · rw [r1.aJ 42 rfl k, w1.aJ 42 rfl k]
        exact z4.trans (efc k)
    · refine ⟨((r1.aI 40 rfl k).trans (w2 k hk).2).trans ((i2 k (by omega)).2.2.2.2.2 hk), ?_⟩
      rw [r4 k hk, (w2 k hk).1, i3 k (Or.inl hk)]
      simp [gI_pI, gJ_pI, gR_pI, aI_pI, aJ_pI, aG_pI, gN_pI, gF_pI, gM_pI, gZ_pI, tl_pI, gI_pJ, gJ_pJ, gR_pJ, aI_pJ, aJ_pJ, aG_pJ, gN_pJ, gF_pJ, gM_pJ, gZ_pJ, tl_pJ, gI_pR, gJ_pR, gR_pR, aI_pR, aJ_pR, aG_pR, gN_pR, gF_pR, gM_pR, gZ_pR, tl_pR, gI_wI, gJ_wI, gR_wI, aI_wI, aJ_wI, aG_wI, gN_wI, gF_wI, gM_wI, gZ_wI, tl_wI, gI_wJ, gJ_wJ, gR_wJ, aI_wJ, aJ_wJ, aG_wJ, gN_wJ, gF_wJ, gM_wJ, gZ_wJ, tl_wJ, gI_wG, gJ_wG, gR_wG, aI_wG, aJ_wG, aG_wG, gN_wG, gF_wG, gM_wG, gZ_wG, tl_wG, gS_pI, gS_pJ, gS_pR, gS_wI, gS_wJ, gS_wG, fr_25_0, fr_26_0, fr_26_1, fr_26_2, fr_26_3, fr_26_4, fr_26_5, fr_26_6, fr_26_7, fr_26_8, fr_36_6, fr_36_7, fr_36_8, fr_36_9, fr_36_10, fr_36_11, fr_36_12, fr_36_13, fr_36_14, fr_46_0, fr_46_1, fr_1_0, fr_1_4, fr_1_5, fr_1_6, fr_1_7, fr_1_8, fr_1_9, fr_b_10, fr_b_11, fr_b_12, fr_b_13, fr_b_14, fr_b_15, fr_b_16, fr_b_17, fr_b_18, fr_b_19, fin_pI, fin_pJ, fin_wI, fin_wJ, fin_wG, sh_b_1, lt_b_1, sh_b_2, lt_b_2, sh_b_3, lt_b_3, sh_b_4, lt_b_4, sh_b_5, lt_b_5, sh_b_6, lt_b_6, sh_b_7, lt_b_7, sh_b_8, lt_b_8, sh_b_9, lt_b_9, sh_b_10, lt_b_10, sh_b, lt_b, nz_b, finN]
    · refine ⟨(r1.aI 40 rfl k).trans (hsh k a c).2.2, ?_⟩
      rw [r3 k a c, (hsh k a c).1]
      congr 1
      have z := hlb.1
      by_cases q : rk (fun k => r.2.2.1 k % r.2.2.2.1) fl n k < (lfF r fl n P0).toNat
      · rw [if_pos q, if_pos (by omega)]
      · rw [if_neg q, if_neg (by omega)]
    · exact (r1.I 36 16 rfl).trans w5
    · rw [r2, nI_i hLb, Int.toNat_of_nonneg hlb.1]
  · simp [gI_pI, gJ_pI, gR_pI, aI_pI, aJ_pI, aG_pI, gN_pI, gF_pI, gM_pI, gZ_pI, tl_pI, gI_pJ, gJ_pJ, gR_pJ, aI_pJ, aJ_pJ, aG_pJ, gN_pJ, gF_pJ, gM_pJ, gZ_pJ, tl_pJ, gI_pR, gJ_pR, gR_pR, aI_pR, aJ_pR, aG_pR, gN_pR, gF_pR, gM_pR, gZ_pR, tl_pR, gI_wI, gJ_wI, gR_wI, aI_wI, aJ_wI, aG_wI, gN_wI, gF_wI, gM_wI, gZ_wI, tl_wI, gI_wJ, gJ_wJ, gR_wJ, aI_wJ, aJ_wJ, aG_wJ, gN_wJ, gF_wJ, gM_wJ, gZ_wJ, tl_wJ, gI_wG, gJ_wG, gR_wG, aI_wG, aJ_wG, aG_wG, gN_wG, gF_wG, gM_wG, gZ_wG, tl_wG, gS_pI, gS_pJ, gS_pR, gS_wI, gS_wJ, gS_wG, fr_25_0, fr_26_0, fr_26_1, fr_26_2, fr_26_3, fr_26_4, fr_26_5, fr_26_6, fr_26_7, fr_26_8, fr_36_6, fr_36_7, fr_36_8, fr_36_9, fr_36_10, fr_36_11, fr_36_12, fr_36_13, fr_36_14, fr_46_0, fr_46_1, fr_1_0, fr_1_4, fr_1_5, fr_1_6, fr_1_7, fr_1_8, fr_1_9, fr_b_10, fr_b_11, fr_b_12, fr_b_13, fr_b_14, fr_b_15, fr_b_16, fr_b_17, fr_b_18, fr_b_19, fin_pI, fin_pJ, fin_wI, fin_wJ, fin_wG, sh_b_1, lt_b_1, sh_b_2, lt_b_2, sh_b_3, lt_b_3, sh_b_4, lt_b_4, sh_b_5, lt_b_5, sh_b_6, lt_b_6, sh_b_7, lt_b_7, sh_b_8, lt_b_8, sh_b_9, lt_b_9, sh_b_10, lt_b_10, sh_b, lt_b, nz_b, finN, sI, i_l]

theorem bnd_bnd {α β γ : Type} {d : Option (α × Sg)} {k : α → Sg → Option (β × Sg)} {l : β → Sg → Option (γ × Sg)} : bnd (bnd d k) l = bnd d (fun r s => bnd (k r s) l) := by
  cases d <;> rfl
/-! THE BOOK while it is read, and the model's rows -/
def mfd (j : Nat) : Nat := [11, 3, 4, 5, 6, 7, 8, 10, 0, 9].getD j 0
abbrev jL : List Nat := [0, 1, 2, 3, 4, 5, 6, 7, 9]
def BCn (τ μ : Sg) (b : Nat) (W : Nat → Nat) : Prop := (∀ j, j ∈ jL → gI τ b j = nI (W j) ∧ gI μ 51 (mfd j) = nI (W j)) ∧ gI τ b 8 = gI μ 51 33 ∧ (gI τ b 8 = 0 ∨ gI τ b 8 = 1)
def BBd (W : Nat → Nat) : Prop := W 1 ≤ 12 ∧ W 2 ≤ 6 ∧ W 3 ≤ 24 ∧ W 4 ≤ 5 ∧ W 5 ≤ 16 ∧ W 6 ≤ 16 ∧ W 7 ≤ 99 ∧ W 9 ≤ 8 ∧ 1 ≤ W 7
def BNm (τ μ : Sg) (b : Nat) (W : Nat → Nat) : Prop := NmT τ μ (b + 1) 63 (W 1) ∧ NmT τ μ (b + 2) 64 (W 2) ∧ NmT τ μ (b + 3) 65 (W 9)
def BRw (τ μ : Sg) (b : Nat) (W : Nat → Nat) : Prop :=
  (∀ i, i < W 4 → aI μ 54 (2 * i) = aG τ (b + 6) i 0 ∧ aI μ 54 (2 * i + 1) = aG τ (b + 6) i 1 ∧ 1 ≤ (aG τ (b + 6) i 1).toInt ∧ (aG τ (b + 6) i 1).toInt ≤ 999) ∧
  (∀ p, p < W 5 → aI μ 55 (6 * p) = aG τ (b + 7) p 0 ∧ aI μ 55 (6 * p + 1) = aG τ (b + 7) p 1 ∧ aI μ 55 (6 * p + 2) = aG τ (b + 7) p 2 ∧ aI μ 55 (6 * p + 3) = aG τ (b + 7) p 3 ∧ aI μ 55 (6 * p + 4) = aG τ (b + 7) p 4 ∧ aI μ 55 (6 * p + 5) = aG τ (b + 7) p 5 ∧
    1 ≤ (aG τ (b + 7) p 4).toInt ∧ (aG τ (b + 7) p 4).toInt ≤ 999999 ∧ (aG τ (b + 7) p 3 = 2 → (aG τ (b + 7) p 4).toInt ≤ 100)) ∧
  (∀ i, i < W 6 → aI μ 56 (4 * i) = aG τ (b + 8) i 0 ∧ aI μ 56 (4 * i + 1) = aG τ (b + 8) i 1 ∧ aI μ 56 (4 * i + 2) = aG τ (b + 8) i 2 ∧ aI μ 56 (4 * i + 3) = aG τ (b + 8) i 3 ∧ 1 ≤ (aG τ (b + 8) i 3).toInt ∧ (aG τ (b + 8) i 3).toInt ≤ 999999)
def BLg (τ μ : Sg) (b : Nat) (W : Nat → Nat) : Prop :=
  (∀ x y, x < 12 → y < 12 → aG τ (b + 4) x y = if LG μ W x y = 1000000 then 0 else LG μ W x y) ∧
  (∀ i, i < W 3 → ∃ x y, x < W 1 ∧ y < W 1 ∧ x ≠ y ∧ aI μ 53 (3 * i) = nI x ∧ aI μ 53 (3 * i + 1) = nI y ∧ 1 ≤ (aI μ 53 (3 * i + 2)).toInt ∧ (aI μ 53 (3 * i + 2)).toInt ≤ 9999) ∧
  Clo (fun x y => (LG μ W x y).toInt) (fun x y => (aG τ (b + 5) x y).toInt) ∧ (∀ x y, x < 12 → y < 12 → 0 ≤ (aG τ (b + 5) x y).toInt ∧ (aG τ (b + 5) x y).toInt ≤ 1000000)
def BTk (τ μ : Sg) (b : Nat) (W tn : Nat → Nat) : Prop :=
  ∀ t, t < W 9 → (aI μ 57 (4 * t) = aG τ (b + 9) t 0 ∧ aI μ 57 (4 * t + 1) = aG τ (b + 9) t 1 ∧ aI μ 57 (4 * t + 2) = nI (tn t) ∧ aG τ (b + 9) t 2 = nI (tn t) ∧ aI μ 57 (4 * t + 3) = aG τ (b + 9) t 3 ∧ (∃ c, c < W 2 ∧ aG τ (b + 9) t 3 = nI c) ∧
    (1 ≤ tn t ∧ tn t ≤ 8) ∧ (1 ≤ (aG τ (b + 9) t 0).toInt ∧ (aG τ (b + 9) t 0).toInt ≤ 9999999) ∧ (aG τ (b + 9) t 1 = 0 ∨ aG τ (b + 9) t 1 = 1) ∧
    (∀ k, k < tn t → aI μ 58 (8 * t + k) = aG τ (b + 10) t k ∧ aI μ 59 (8 * t + k) = aG τ (b + 10) t (k + 1) ∧ 1 ≤ (mlP (aG τ (b + 5)) (aG τ (b + 10) t) k).toInt ∧ (mlP (aG τ (b + 5)) (aG τ (b + 10) t) k).toInt ≤ 999999) ∧
    (∀ k, k ≤ tn t → ∃ x, x < W 1 ∧ aG τ (b + 10) t k = nI x)) ∧
    ∀ k, k < tn t → aI μ 66 (8 * t + k) = aG τ (b + 9) t (3 + k) ∧ ∃ c, c < W 2 ∧ aG τ (b + 9) t (3 + k) = nI c
def BK (τ μ : Sg) (b : Nat) (W tn : Nat → Nat) : Prop := BCn τ μ b W ∧ BBd W ∧ BNm τ μ b W ∧ BRw τ μ b W ∧ BLg τ μ b W ∧ BTk τ μ b W tn
def RS (T : Nat → Int32) (n b : Nat) (W tn : Nat → Nat) (τ μ : Sg) (pt p a : Nat) : Prop :=
  CS T n τ pt p a ∧ MS T n μ p a ∧ gR τ 25 1 = b ∧ gI μ 51 29 = 0 ∧ isB b ∧ W 0 ≤ p ∧ BK τ μ b W tn
abbrev LC (b : Nat) : List (Nat × Nat) := RdC ++ [(b, 0), (b, 1), (b, 2), (b, 3), (b, 4), (b, 5), (b, 6), (b, 7), (b, 8), (b, 9)]
abbrev LA (b : Nat) : List Nat := [b + 1, b + 2, b + 3, b + 4, b + 5, b + 6, b + 7, b + 8, b + 9, b + 10]
abbrev LM : List (Nat × Nat) := RdM ++ [(51, 3), (51, 4), (51, 5), (51, 6), (51, 7), (51, 8), (51, 9), (51, 10), (51, 11), (51, 33)]
abbrev LMA : List Nat := [53, 54, 55, 56, 57, 58, 59, 60, 63, 64, 65, 66]
def LnR (T : Nat → Int32) (n b : Nat) (τ μ : Sg) (p : Nat) (r : Int32) (υ ω : Sg) : Prop :=
  Fr (fF (LC b)) (fA (LA b)) τ υ ∧ Fr (fF LM) (fA LMA) μ ω ∧
  ((r = 1 ∧ ∃ W tn pt' p' a', RS T n b W tn υ ω pt' p' a' ∧ p < p') ∨ (r = 0 ∧ ∃ f q, f ≠ 0 ∧ FC f q υ ∧ FM f q ω))
theorem ok2_ss {α β : Type} {r : α} {υ : Sg} {s : β} {ω : Sg} {R : α → Sg → β → Sg → Prop} (h : R r υ s ω) : Ok2 (some (r, υ)) (some (s, ω)) R := ⟨r, υ, rfl, s, ω, rfl, h⟩
/-! what stays as it was -/
theorem BRw.cg {τ μ υ ω : Sg} {b : Nat} {W W' : Nat → Nat} (h : BRw τ μ b W) (e : ∀ j, 6 ≤ j → j ≤ 8 → aG υ (b + j) = aG τ (b + j)) (m : ∀ a, 54 ≤ a → a ≤ 56 → aI ω a = aI μ a) (w : ∀ j, 4 ≤ j → j ≤ 6 → W' j = W j) : BRw υ ω b W' := by
  unfold BRw
  rw [e 6 (by omega) (by omega), e 7 (by omega) (by omega), e 8 (by omega) (by omega), m 54 (by omega) (by omega), m 55 (by omega) (by omega), m 56 (by omega) (by omega), w 4 (by omega) (by omega), w 5 (by omega) (by omega), w 6 (by omega) (by omega)]
  exact h
theorem BLg.cg {τ μ υ ω : Sg} {b : Nat} {W W' : Nat → Nat} (h : BLg τ μ b W) (e : ∀ j, 4 ≤ j → j ≤ 5 → aG υ (b + j) = aG τ (b + j)) (m : aI ω 53 = aI μ 53) (w : W' 3 = W 3) (w1 : W 1 ≤ W' 1) : BLg υ ω b W' := by
  have eL : LG ω W' = LG μ W := by unfold LG; rw [m, w]
  obtain ⟨h1, h2, h3, h4⟩ := h
  unfold BLg
  rw [eL, m, w, e 4 (by omega) (by omega), e 5 (by omega) (by omega)]
  refine ⟨h1, fun i hi => ?_, h3, h4⟩
  obtain ⟨x, y, a1, a2, a3⟩ := h2 i hi
  exact ⟨x, y, by omega, by omega, a3⟩
theorem BTk.cg {τ μ υ ω : Sg} {b : Nat} {W W' tn : Nat → Nat} (h : BTk τ μ b W tn) (e5 : aG υ (b + 5) = aG τ (b + 5)) (e9 : aG υ (b + 9) = aG τ (b + 9)) (e10 : aG υ (b + 10) = aG τ (b + 10)) (m57 : aI ω 57 = aI μ 57) (m58 : aI ω 58 = aI μ 58) (m59 : aI ω 59 = aI μ 59) (m66 : aI ω 66 = aI μ 66) (w9 : W' 9 = W 9) (w1 : W 1 ≤ W' 1) (w2 : W 2 ≤ W' 2) : BTk υ ω b W' tn := by
  unfold BTk
  rw [e5, e9, e10, m57, m58, m59, m66, w9]
  intro t ht
  obtain ⟨⟨a1, a2, a3, a4, a5, ⟨c, a6, a6'⟩, a7, a8, a9, a10, a11⟩, a12⟩ := h t ht
  refine ⟨⟨a1, a2, a3, a4, a5, ⟨c, by omega, a6'⟩, a7, a8, a9, a10, fun k hk => ?_⟩, fun k hk => ?_⟩
  · obtain ⟨x, x1, x2⟩ := a11 k hk
    exact ⟨x, by omega, x2⟩
  · obtain ⟨x1, d, x2, x3⟩ := a12 k hk
    exact ⟨x1, d, by omega, x3⟩
theorem NmT.cg {τ μ υ ω : Sg} {cv mv k : Nat} (h : NmT τ μ cv mv k) (e : aJ υ cv = aJ τ cv) (m : aI ω mv = aI μ mv) : NmT υ ω cv mv k := by
  unfold NmT
  rw [e, m]
  exact h
theorem NmT.add {τ μ υ ω : Sg} {cv mv k : Nat} {x : Int64} {y : Int32} (h : NmT τ μ cv mv k) (hx : NmR x y) (e : ∀ i, aJ υ cv i = if i = k then x else aJ τ cv i) (m : ∀ i, aI ω mv i = if i = k then y else aI μ mv i) : NmT υ ω cv mv (k + 1) := by
  intro i hi
  rw [e i, m i]
  by_cases q : i = k
  · rw [if_pos q, if_pos q]; exact hx
  · rw [if_neg q, if_neg q]
    exact h i (by omega)
/-- frames: an array, a field that is not named -/
theorem fA_no {l : List Nat} {x : Nat} (h : x ∉ l) : fA l x = false := by
  cases e : fA l x with
  | false => rfl
  | true =>
    obtain ⟨y, h1, h2⟩ := List.any_eq_true.mp e
    simp only [beq_iff_eq] at h2
    exact absurd (h2 ▸ h1) h
theorem fF_no {l : List (Nat × Nat)} {x y : Nat} (h : (x, y) ∉ l) : fF l x y = false := by
  cases e : fF l x y with
  | false => rfl
  | true =>
    obtain ⟨⟨u, v⟩, h1, h2⟩ := List.any_eq_true.mp e
    simp only [Bool.and_eq_true, beq_iff_eq] at h2
    rw [h2.1, h2.2] at h1
    exact absurd h1 h
theorem frx_G {l : List (Nat × Nat)} {m : List Nat} {σ τ : Sg} (h : Fr (fF l) (fA m) σ τ) {a : Nat} (ha : a ∉ m) : aG τ a = aG σ a := funext fun x => funext fun y => h.aG a (fA_no ha) x y
theorem frx_A {l : List (Nat × Nat)} {m : List Nat} {σ τ : Sg} (h : Fr (fF l) (fA m) σ τ) {a : Nat} (ha : a ∉ m) : aI τ a = aI σ a := funext fun x => h.aI a (fA_no ha) x
theorem frx_J {l : List (Nat × Nat)} {m : List Nat} {σ τ : Sg} (h : Fr (fF l) (fA m) σ τ) {a : Nat} (ha : a ∉ m) : aJ τ a = aJ σ a := funext fun x => h.aJ a (fA_no ha) x
theorem f_125 {ω : Sg} (hF : Fin0 ω) (h : ¬ gI ω 51 29 = 0) : DX8_readLine_125 51 ω = some ((), pI ω 51 11 (gI ω 51 11 + 1)) := by
  unfold DX8_readLine_125
  simp (disch := first | assumption | omega) only [wlet_eq, chk_true, bnd_some, bnd_bnd, ck01_0, ck01_1, false_and, and_false, ckO, ckI, ckZ, ckJ, ckG, ckR, ckL, ckV, gI_pI, gJ_pI, gR_pI, aI_pI, aJ_pI, aG_pI, gN_pI, gF_pI, gI_pJ, gJ_pJ, gR_pJ, aI_pJ, aJ_pJ, aG_pJ, gN_pJ, gF_pJ, gI_pR, gJ_pR, gR_pR, aI_pR, aJ_pR, aG_pR, gN_pR, gF_pR, gI_wI, gJ_wI, gR_wI, aI_wI, aJ_wI, aG_wI, gN_wI, gF_wI, gI_wJ, gJ_wJ, gR_wJ, aI_wJ, aJ_wJ, aG_wJ, gN_wJ, gF_wJ, gI_wG, gJ_wG, gR_wG, aI_wG, aJ_wG, aG_wG, gN_wG, gF_wG, fr_25_0, fr_26_0, fr_26_1, fr_26_2, fr_26_3, fr_26_4, fr_26_5, fr_26_6, fr_26_7, fr_26_8, fr_36_6, fr_36_7, fr_36_8, fr_36_9, fr_36_10, fr_36_11, fr_36_12, fr_36_13, fr_36_14, fr_46_0, fr_46_1, fr_1_0, fr_1_4, fr_1_5, fr_1_6, fr_1_7, fr_1_8, fr_1_9, fr_51_1, fr_51_12, fr_51_13, fr_51_14, fr_51_15, fr_51_16, fr_51_17, fr_51_18, fr_51_19, fr_51_20, fr_51_21, fr_51_34, fr_51_35, fr_51_36, fr_51_37, fr_51_38, fr_51_39, fr_51_40, fr_51_41, fr_51_42, fr_51_43, fr_51_44, fr_51_45, fr_51_46, fr_51_51, fr_51_52, fr_51_53, fr_51_54, fr_51_55, fr_51_56, fr_b_10, fr_b_11, fr_b_12, fr_b_13, fr_b_14, fr_b_15, fr_b_16, fr_b_17, fr_b_18, fr_b_19, fin_pI, fin_pJ, fin_wI, fin_wJ, fin_wG, sh_b_1, lt_b_1, sh_b_2, lt_b_2, sh_b_3, lt_b_3, sh_b_4, lt_b_4, sh_b_5, lt_b_5, sh_b_6, lt_b_6, sh_b_7, lt_b_7, sh_b_8, lt_b_8, sh_b_9, lt_b_9, sh_b_10, lt_b_10, sh_b, lt_b, nz_b, finN, sh_1, sh_2, sh_25, sh_26, sh_27, sh_28, sh_29, sh_30, sh_31, sh_32, sh_33, sh_34, sh_35, sh_36, sh_37, sh_38, sh_39, sh_40, sh_41, sh_42, sh_43, sh_44, sh_45, sh_46, sh_47, sh_48, sh_49, sh_50, sh_51, sh_52, sh_53, sh_54, sh_55, sh_56, sh_57, sh_58, sh_59, sh_60, sh_61, sh_62, sh_63, sh_64, sh_65, sh_66, sh_67, sh_68, sh_69, sh_70, sh_71, sh_72, sh_73, sh_74, sh_75, sh_76, sh_77, sh_78, sh_79, sh_80, sh_81, sh_82, mul_nI_2, mul_nI_3, mul_nI_4, mul_nI_6, mul_nI_8, mul_nI_10, mul_nI_11, mul_nI_12, mul_nI_27, mul_nI_36, mul_nI_242, add_nI_0, dda_nI_0, add_nI_1, dda_nI_1, add_nI_2, dda_nI_2, add_nI_3, dda_nI_3, add_nI_4, dda_nI_4, add_nI_5, dda_nI_5, add_nI_6, dda_nI_6, add_nI_8, dda_nI_8, add_nI_12, dda_nI_12, add_nI_64, dda_nI_64, add_nI_128, dda_nI_128, add_nI_192, dda_nI_192, add_nI_228, dda_nI_228, add_nI_234, dda_nI_234, add_nI_242, dda_nI_242, sub_nI_1, sub_nI_2, sub_nI_20, sub_nI_242, inb_0, ixl_0, inb_1, ixl_1, inb_2, ixl_2, inb_3, ixl_3, inb_4, ixl_4, inb_5, ixl_5, inb_6, ixl_6, inb_7, ixl_7, inb_8, ixl_8, inb_9, ixl_9, inb_10, ixl_10, inb_11, ixl_11, nI_add, pk_mul, ixn, inbn, le_l0, l0_le, lt_l0, l0_lt, eq_l0, l0_eq, le_l1, l1_le, lt_l1, l1_lt, eq_l1, l1_eq, le_l2, l2_le, lt_l2, l2_lt, eq_l2, l2_eq, le_l3, l3_le, lt_l3, l3_lt, eq_l3, l3_eq, le_l4, l4_le, lt_l4, l4_lt, eq_l4, l4_eq, le_l5, l5_le, lt_l5, l5_lt, eq_l5, l5_eq, le_l6, l6_le, lt_l6, l6_lt, eq_l6, l6_eq, le_l8, l8_le, lt_l8, l8_lt, eq_l8, l8_eq, le_l9, l9_le, lt_l9, l9_lt, eq_l9, l9_eq, le_l10, l10_le, lt_l10, l10_lt, eq_l10, l10_eq, le_l11, l11_le, lt_l11, l11_lt, eq_l11, l11_eq, le_l12, l12_le, lt_l12, l12_lt, eq_l12, l12_eq, le_l14, l14_le, lt_l14, l14_lt, eq_l14, l14_eq, le_l16, l16_le, lt_l16, l16_lt, eq_l16, l16_eq, le_l20, l20_le, lt_l20, l20_lt, eq_l20, l20_eq, le_l24, l24_le, lt_l24, l24_lt, eq_l24, l24_eq, le_l64, l64_le, lt_l64, l64_lt, eq_l64, l64_eq, le_l72, l72_le, lt_l72, l72_lt, eq_l72, l72_eq, le_l242, l242_le, lt_l242, l242_lt, eq_l242, l242_eq, le_l1180, l1180_le, lt_l1180, l1180_lt, eq_l1180, l1180_eq, le_l1200, l1200_le, lt_l1200, l1200_lt, eq_l1200, l1200_eq, le_l3388, l3388_le, lt_l3388, l3388_lt, eq_l3388, l3388_eq, le_l200000, l200000_le, lt_l200000, l200000_lt, eq_l200000, l200000_eq, le_l1000000, l1000000_le, lt_l1000000, l1000000_lt, eq_l1000000, l1000000_eq, le_nI, lt_nI, eq_nI, decide_true, decide_eq_true_eq, Bool.and_true, Bool.true_and, and_true, true_and, if_true, if_false, ite_true, ite_false, decide_false, ne_eq, not_false_eq_true, not_true_eq_false, reduceCtorEq, Nat.reduceLT, Nat.reduceEqDiff, Nat.reduceMul, Nat.reduceAdd, f_goOn hF h]
/-- the new counts -/
def stW (W : Nat → Nat) (c v : Nat) (j : Nat) : Nat := if j = 0 then W 0 + 1 else if j = c then v else W j
theorem BCn.st {τ μ υ ω : Sg} {b c v : Nat} {W : Nat → Nat} (h : BCn τ μ b W) (hb : isB b) (hc : c ∈ jL) (hc0 : c ≠ 0) {A A' : List Nat} (hf : Fr (fF (RdC ++ [(b, 0), (b, c)])) (fA A) τ υ) (hm : Fr (fF (RdM ++ [(51, 11), (51, mfd c)])) (fA A') μ ω)
    (e0 : gI υ b 0 = nI (W 0 + 1)) (ec : gI υ b c = nI v) (m0 : gI ω 51 11 = nI (W 0 + 1)) (mc : gI ω 51 (mfd c) = nI v) : BCn υ ω b (stW W c v) := by
  obtain ⟨h1, h2, h3⟩ := h
  have hb25 : b ≠ 25 := by rcases hb with rfl | rfl <;> decide
  refine ⟨fun j hj => ?_, ?_⟩
  · unfold stW
    by_cases q0 : j = 0
    · subst q0
      rw [if_pos rfl]
      exact ⟨e0, m0⟩
    · rw [if_neg q0]
      by_cases qc : j = c
      · subst qc
        rw [if_pos rfl]
        exact ⟨ec, mc⟩
      · rw [if_neg qc]
        obtain ⟨x1, x2⟩ := h1 j hj
        refine ⟨(hf.I b j (fF_no ?_)).trans x1, (hm.I 51 (mfd j) (fF_no ?_)).trans x2⟩
        · simp [hb25, q0, qc]
        · have : ∀ j ∈ jL, ∀ c ∈ jL, j ≠ 0 → j ≠ c → (51, mfd j) ∉ RdM ++ [(51, 11), (51, mfd c)] := by decide +kernel
          exact this j hj c hc q0 qc
  · have e8 : gI υ b 8 = gI τ b 8 := hf.I b 8 (fF_no (by
      have : (8 : Nat) ≠ c := fun z => by rw [← z] at hc; exact absurd hc (by decide)
      simp [hb25, this]))
    have m33 : gI ω 51 33 = gI μ 51 33 := hm.I 51 33 (fF_no (by
      have : ∀ c ∈ jL, (51, 33) ∉ RdM ++ [(51, 11), (51, mfd c)] := by decide +kernel
      exact this c hc))
    rw [e8, m33]
    exact ⟨h2, h3⟩

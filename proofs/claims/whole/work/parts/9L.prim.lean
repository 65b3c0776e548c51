/-! READING, step by step: two systems beside each other -/
def Ok2 {α β : Type} (c : Option (α × Sg)) (m : Option (β × Sg)) (R : α → Sg → β → Sg → Prop) : Prop := Ok c (fun r υ => Ok m (fun s ω => R r υ s ω))
theorem ok2_l {α β γ : Type} {c : Option (α × Sg)} {kc : α → Sg → Option (γ × Sg)} {m : Option (β × Sg)} {R : γ → Sg → β → Sg → Prop} {Q1 : α → Sg → Prop} (hc : Ok c Q1) (h : ∀ r υ, Q1 r υ → Ok2 (kc r υ) m R) : Ok2 (bnd c kc) m R :=
  ok_bnd hc h
theorem ok2_r {α β γ : Type} {c : Option (α × Sg)} {m : Option (β × Sg)} {km : β → Sg → Option (γ × Sg)} {R : α → Sg → γ → Sg → Prop} {Q2 : β → Sg → Prop} (hm : Ok m Q2) (h : ∀ s ω, Q2 s ω → Ok2 c (km s ω) R) : Ok2 c (bnd m km) R := by
  obtain ⟨s, ω, e, q⟩ := hm
  obtain ⟨r, υ, e1, e2⟩ := h s ω q
  exact ⟨r, υ, e1, ok_bnd_eq e e2⟩
theorem tk_lt {T : Nat → Int32} {n p : Nat} : tkF T n p < 20 := by
  unfold tkF
  split
  · omega
  · rename_i q
    split
    · rename_i qs
      have := wtk_in (len := rn smB T (n - p) p - p) (wd_pos (T := T) (n := n) (P := p) (by omega) qs)
      omega
    · split
      · omega
      · split <;> omega
theorem ckT_k {T : Nat → Int32} {n p : Nat} : ckT (1000 + tkF T n p) = true := ckT_n tk_lt
/-- a name that stands there -/
def NmR (x : Int64) (y : Int32) : Prop := ∃ (f : Nat → Nat) (l : Nat), 1 ≤ l ∧ l ≤ 6 ∧ (∀ i, i < l → 1 ≤ f i ∧ f i < 27) ∧ x = oJ (cdB 27 f l) ∧ y = nI (cdB 32 f l)
theorem NmR.bd {f : Nat → Nat} {l : Nat} (h2 : l ≤ 6) (h : ∀ i, i < l → 1 ≤ f i ∧ f i < 27) : cdB 27 f l < 9223372036854775808 ∧ cdB 32 f l < 2147483648 := by
  have a := cdB_lt (B := 27) (f := f) (n := l) (fun i hi => (h i hi).2)
  have b := cdB_lt (B := 32) (f := f) (n := l) (fun i hi => by have := h i hi; omega)
  have c : 27 ^ l ≤ 27 ^ 6 := Nat.pow_le_pow_right (by omega) h2
  have d : 32 ^ l ≤ 32 ^ 6 := Nat.pow_le_pow_right (by omega) h2
  omega
theorem NmR.iff {x x' : Int64} {y y' : Int32} (h : NmR x y) (k : NmR x' y') : (x = x') = (y = y') := by
  obtain ⟨f, l, a1, a2, a3, a4, a5⟩ := h
  obtain ⟨g, m, b1, b2, b3, b4, b5⟩ := k
  have p := NmR.bd a2 a3
  have q := NmR.bd b2 b3
  rw [a4, a5, b4, b5, oJ_eq p.1 q.1, nI_eq p.2 q.2]
  refine propext ⟨fun h => ?_, fun h => ?_⟩
  · obtain ⟨i1, i2⟩ := cdB_inj (by omega) a3 b3 h
    subst i1
    exact cdB_congr i2
  · obtain ⟨i1, i2⟩ := cdB_inj (B := 32) (by omega) (fun i hi => by have := a3 i hi; omega) (fun i hi => by have := b3 i hi; omega) h
    subst i1
    exact cdB_congr i2
theorem NmR.nz {x : Int64} {y : Int32} (h : NmR x y) : ¬ x = 0 := by
  obtain ⟨f, l, a1, a2, a3, a4, a5⟩ := h
  have p := NmR.bd a2 a3
  have := cdB_pos (B := 27) (f := f) (by omega) a1 (fun i hi => (a3 i hi).1)
  rw [a4, show (0 : Int64) = oJ 0 from rfl, oJ_eq p.1 (by omega)]
  omega
abbrev nmX (T : Nat → Int32) (n p : Nat) : Int64 := oJ (cdB 27 (lt' T p) (nxA T n p - p))
abbrev nmY (T : Nat → Int32) (n p : Nat) : Int32 := nI (cdB 32 (lt' T p) (nxA T n p - p))
theorem nm_tok {T : Nat → Int32} {n p : Nat} (h : tkF T n p = 4) : NmR (nmX T n p) (nmY T n p) := by
  unfold tkF at h
  by_cases q : n ≤ p
  · rw [if_pos q] at h; omega
  · rw [if_neg q] at h
    by_cases qs : smB (T p) = true
    · rw [if_pos qs] at h
      have h1 := rn_one (p := smB) (T := T) (d := n - p) (by omega) qs
      have wi := wtk_in (len := rn smB T (n - p) p - p) (wd_pos (T := T) (n := n) (P := p) (by omega) qs)
      have e : nxA T n p = rn smB T (n - p) p := by
        unfold nxA
        rw [if_neg q, if_pos qs]
      unfold nmX nmY
      rw [e]
      exact ⟨lt' T p, rn smB T (n - p) p - p, by omega, by omega, fun i hi => lt_1 (rn_all (p := smB) (T := T) (n - p) p _ (by omega) (by omega)), rfl, rfl⟩
    · rw [if_neg qs] at h
      split at h
      · omega
      · split at h <;> omega
/-- the first that is so; -1: none -/
def fiR (p : Nat → Bool) : Nat → Nat → Int32
  | 0, _ => -1
  | d + 1, i => if p i then nI i else fiR p d (i + 1)
theorem fiR_in {p : Nat → Bool} : ∀ (d i : Nat), fiR p d i = -1 ∨ ∃ j, i ≤ j ∧ j < i + d ∧ fiR p d i = nI j
  | 0, _ => Or.inl rfl
  | d + 1, i => by
    unfold fiR
    split
    · exact Or.inr ⟨i, Nat.le_refl _, by omega, rfl⟩
    · rcases fiR_in (p := p) d (i + 1) with h | ⟨j, a, b, c⟩
      · exact Or.inl h
      · exact Or.inr ⟨j, by omega, by omega, c⟩
theorem fiR_congr {p q : Nat → Bool} : ∀ (d i : Nat), (∀ j, i ≤ j → j < i + d → p j = q j) → fiR p d i = fiR q d i
  | 0, _, _ => rfl
  | d + 1, i, h => by
    unfold fiR
    rw [h i (Nat.le_refl _) (by omega), fiR_congr d (i + 1) (fun j a b => h j (by omega) (by omega))]
theorem c_ix {τ : Sg} {x : Int64} {v k L : Nat} (hF : Fin0 τ) (hs : shp v = (4, L, 0)) (hv : v < 83) (hL : L < 2147483648) (hk : k ≤ L) {m' : Nat} : ∀ (d i m : Nat), i + d = k → d < m → DX1_indexOf_3 m x v (nI k) (nI i) τ = some (fiR (fun j => decide (aJ τ v j = x)) d i, τ) := by
  intro d
  induction d with
  | zero =>
    intro i m hi hm
    obtain ⟨m, rfl⟩ : ∃ k, m = k + 1 := ⟨m - 1, by omega⟩
    rw [DX1_indexOf_3, if_pos (by rw [nI_leI (by omega) (by omega)]; omega)]
    rfl
  | succ d ih =>
    intro i m hi hm
    obtain ⟨m, rfl⟩ : ∃ k, m = k + 1 := ⟨m - 1, by omega⟩
    rw [DX1_indexOf_3, if_neg (by rw [nI_leI (by omega) (by omega)]; omega)]
    have c1 : ckL τ v = true := by unfold ckL; simp [hs, finN hF, hv]
    have c2 : ckJ τ v (nI i) = true := by unfold ckJ; simp [hs, finN hF, hv, inbn (show i < L by omega) hL]
    rw [hs, c1, chk_true, if_neg (by show ¬ nI L ≤ nI i; rw [nI_leI (by omega) (by omega)]; omega), c2, chk_true, ixn (by omega)]
    unfold fiR
    by_cases q : aJ τ v i = x
    · rw [if_pos q, decide_eq_true q, if_pos rfl]
      rfl
    · rw [if_neg q, decide_eq_false q, if_neg (by decide), add_nI_1]
      exact ih (i + 1) m (by omega) (by omega)
theorem m_ix {τ : Sg} {v k L : Nat} (hF : Fin0 τ) (hs : shp v = (2, L, 0)) (hv : v < 83) (hL : L < 2147483648) (hk : k ≤ L) : ∀ (d i m : Nat), i + d = k → d < m → DX8_named_2 m 51 v (nI k) (nI i) τ = some (fiR (fun j => decide (aI τ v j = gI τ 51 28)) d i, τ) := by
  intro d
  induction d with
  | zero =>
    intro i m hi hm
    obtain ⟨m, rfl⟩ : ∃ k, m = k + 1 := ⟨m - 1, by omega⟩
    rw [DX8_named_2, if_pos (by rw [nI_leI (by omega) (by omega)]; omega)]
    rfl
  | succ d ih =>
    intro i m hi hm
    obtain ⟨m, rfl⟩ : ∃ k, m = k + 1 := ⟨m - 1, by omega⟩
    rw [DX8_named_2, if_neg (by rw [nI_leI (by omega) (by omega)]; omega)]
    have c1 : ckI τ v (nI i) = true := by unfold ckI; simp [hs, finN hF, hv, inbn (show i < L by omega) hL]
    have c2 : ckO τ 6 51 = true := by simp (disch := first | assumption | omega) [ckO, ckI, ckZ, ckJ, ckG, ckR, ckL, ckV, ck01, chk_true, bnd_some, gI_pI, gJ_pI, gR_pI, aI_pI, aJ_pI, aG_pI, gN_pI, gF_pI, gI_pJ, gJ_pJ, gR_pJ, aI_pJ, aJ_pJ, aG_pJ, gN_pJ, gF_pJ, gI_pR, gJ_pR, gR_pR, aI_pR, aJ_pR, aG_pR, gN_pR, gF_pR, gI_wI, gJ_wI, gR_wI, aI_wI, aJ_wI, aG_wI, gN_wI, gF_wI, gI_wJ, gJ_wJ, gR_wJ, aI_wJ, aJ_wJ, aG_wJ, gN_wJ, gF_wJ, gI_wG, gJ_wG, gR_wG, aI_wG, aJ_wG, aG_wG, gN_wG, gF_wG, fr_25_0, fr_26_0, fr_26_1, fr_26_2, fr_26_3, fr_26_4, fr_26_5, fr_26_6, fr_26_7, fr_26_8, fr_36_6, fr_36_7, fr_36_8, fr_36_9, fr_36_10, fr_36_11, fr_36_12, fr_36_13, fr_36_14, fr_46_0, fr_46_1, fr_1_0, fr_1_4, fr_1_5, fr_1_6, fr_1_7, fr_1_8, fr_1_9, fr_51_1, fr_51_12, fr_51_13, fr_51_14, fr_51_15, fr_51_16, fr_51_17, fr_51_18, fr_51_19, fr_51_20, fr_51_21, fr_51_34, fr_51_35, fr_51_36, fr_51_37, fr_51_38, fr_51_39, fr_51_40, fr_51_41, fr_51_42, fr_51_43, fr_51_44, fr_51_45, fr_51_46, fr_51_51, fr_51_52, fr_51_53, fr_51_54, fr_51_55, fr_51_56, fr_b_10, fr_b_11, fr_b_12, fr_b_13, fr_b_14, fr_b_15, fr_b_16, fr_b_17, fr_b_18, fr_b_19, fin_pI, fin_pJ, fin_wI, fin_wJ, fin_wG, sh_b_1, lt_b_1, sh_b_2, lt_b_2, sh_b_3, lt_b_3, sh_b_4, lt_b_4, sh_b_5, lt_b_5, sh_b_6, lt_b_6, sh_b_7, lt_b_7, sh_b_8, lt_b_8, sh_b_9, lt_b_9, sh_b_10, lt_b_10, sh_b, lt_b, nz_b, finN, sh_1, sh_2, sh_25, sh_26, sh_27, sh_28, sh_29, sh_30, sh_31, sh_32, sh_33, sh_34, sh_35, sh_36, sh_37, sh_38, sh_39, sh_40, sh_41, sh_42, sh_43, sh_44, sh_45, sh_46, sh_47, sh_48, sh_49, sh_50, sh_51, sh_52, sh_53, sh_54, sh_55, sh_56, sh_57, sh_58, sh_59, sh_60, sh_61, sh_62, sh_63, sh_64, sh_65, sh_66, sh_67, sh_68, sh_69, sh_70, sh_71, sh_72, sh_73, sh_74, sh_75, sh_76, sh_77, sh_78, sh_79, sh_80, sh_81, sh_82, mul_nI_2, mul_nI_3, mul_nI_4, mul_nI_6, mul_nI_8, mul_nI_10, mul_nI_11, mul_nI_12, mul_nI_27, mul_nI_36, mul_nI_242, add_nI_0, dda_nI_0, add_nI_1, dda_nI_1, add_nI_2, dda_nI_2, add_nI_3, dda_nI_3, add_nI_4, dda_nI_4, add_nI_5, dda_nI_5, add_nI_6, dda_nI_6, add_nI_8, dda_nI_8, add_nI_12, dda_nI_12, add_nI_64, dda_nI_64, add_nI_128, dda_nI_128, add_nI_192, dda_nI_192, add_nI_228, dda_nI_228, add_nI_234, dda_nI_234, add_nI_242, dda_nI_242, sub_nI_1, sub_nI_2, sub_nI_20, sub_nI_242, inb_0, ixl_0, inb_1, ixl_1, inb_2, ixl_2, inb_3, ixl_3, inb_4, ixl_4, inb_5, ixl_5, inb_6, ixl_6, inb_7, ixl_7, inb_8, ixl_8, inb_9, ixl_9, inb_10, ixl_10, inb_11, ixl_11, nI_add, pk_mul, ixn, inbn, le_l0, l0_le, lt_l0, l0_lt, eq_l0, l0_eq, le_l1, l1_le, lt_l1, l1_lt, eq_l1, l1_eq, le_l2, l2_le, lt_l2, l2_lt, eq_l2, l2_eq, le_l3, l3_le, lt_l3, l3_lt, eq_l3, l3_eq, le_l4, l4_le, lt_l4, l4_lt, eq_l4, l4_eq, le_l5, l5_le, lt_l5, l5_lt, eq_l5, l5_eq, le_l6, l6_le, lt_l6, l6_lt, eq_l6, l6_eq, le_l8, l8_le, lt_l8, l8_lt, eq_l8, l8_eq, le_l9, l9_le, lt_l9, l9_lt, eq_l9, l9_eq, le_l10, l10_le, lt_l10, l10_lt, eq_l10, l10_eq, le_l11, l11_le, lt_l11, l11_lt, eq_l11, l11_eq, le_l12, l12_le, lt_l12, l12_lt, eq_l12, l12_eq, le_l14, l14_le, lt_l14, l14_lt, eq_l14, l14_eq, le_l16, l16_le, lt_l16, l16_lt, eq_l16, l16_eq, le_l20, l20_le, lt_l20, l20_lt, eq_l20, l20_eq, le_l24, l24_le, lt_l24, l24_lt, eq_l24, l24_eq, le_l64, l64_le, lt_l64, l64_lt, eq_l64, l64_eq, le_l72, l72_le, lt_l72, l72_lt, eq_l72, l72_eq, le_l242, l242_le, lt_l242, l242_lt, eq_l242, l242_eq, le_l1180, l1180_le, lt_l1180, l1180_lt, eq_l1180, l1180_eq, le_l1200, l1200_le, lt_l1200, l1200_lt, eq_l1200, l1200_eq, le_l3388, l3388_le, lt_l3388, l3388_lt, eq_l3388, l3388_eq, le_l200000, l200000_le, lt_l200000, l200000_lt, eq_l200000, l200000_eq, le_l1000000, l1000000_le, lt_l1000000, l1000000_lt, eq_l1000000, l1000000_eq, le_nI, lt_nI, eq_nI]
    rw [c1, chk_true, c2, chk_true, ixn (by omega)]
    unfold fiR
    by_cases q : aI τ v i = gI τ 51 28
    · rw [if_pos q, decide_eq_true q, if_pos rfl]
      rfl
    · rw [if_neg q, decide_eq_false q, if_neg (by decide), add_nI_1]
      exact ih (i + 1) m (by omega) (by omega)
/-! what goes wrong -/
def FC (f : Int32) (q : Nat) (υ : Sg) : Prop := gI υ 25 9 = f ∧ gI υ 25 10 = nI q
def FM (f : Int32) (q : Nat) (υ : Sg) : Prop := gI υ 51 29 = f ∧ gI υ 51 30 = nI q
abbrev RdC : List (Nat × Nat) := [(25, 3), (25, 4), (25, 5), (25, 6), (25, 7), (25, 8), (25, 9), (25, 10)]
abbrev RdM : List (Nat × Nat) := [(51, 24), (51, 25), (51, 26), (51, 27), (51, 28), (51, 29), (51, 30)]
theorem c_failHere {τ : Sg} {T : Nat → Int32} {n pt p a : Nat} {f : Int32} (h : CS T n τ pt p a) : ∃ υ, DX3_failHere 25 f τ = some (0, υ) ∧ Fr (fF RdC) (fA []) τ υ ∧ FC f p υ := by
  obtain ⟨hF, -, -, -, h5, -⟩ := h
  refine ⟨pI (pI τ 25 9 f) 25 10 (nI p), ?_, (Fr.rf.pI 25 9 _ (by decide)).pI 25 10 _ (by decide), by simp [gI_pI, gJ_pI, gR_pI, aI_pI, aJ_pI, aG_pI, gN_pI, gF_pI, gI_pJ, gJ_pJ, gR_pJ, aI_pJ, aJ_pJ, aG_pJ, gN_pJ, gF_pJ, gI_pR, gJ_pR, gR_pR, aI_pR, aJ_pR, aG_pR, gN_pR, gF_pR, gI_wI, gJ_wI, gR_wI, aI_wI, aJ_wI, aG_wI, gN_wI, gF_wI, gI_wJ, gJ_wJ, gR_wJ, aI_wJ, aJ_wJ, aG_wJ, gN_wJ, gF_wJ, gI_wG, gJ_wG, gR_wG, aI_wG, aJ_wG, aG_wG, gN_wG, gF_wG, fr_25_0, fr_26_0, fr_26_1, fr_26_2, fr_26_3, fr_26_4, fr_26_5, fr_26_6, fr_26_7, fr_26_8, fr_36_6, fr_36_7, fr_36_8, fr_36_9, fr_36_10, fr_36_11, fr_36_12, fr_36_13, fr_36_14, fr_46_0, fr_46_1, fr_1_0, fr_1_4, fr_1_5, fr_1_6, fr_1_7, fr_1_8, fr_1_9, fr_51_1, fr_51_12, fr_51_13, fr_51_14, fr_51_15, fr_51_16, fr_51_17, fr_51_18, fr_51_19, fr_51_20, fr_51_21, fr_51_34, fr_51_35, fr_51_36, fr_51_37, fr_51_38, fr_51_39, fr_51_40, fr_51_41, fr_51_42, fr_51_43, fr_51_44, fr_51_45, fr_51_46, fr_51_51, fr_51_52, fr_51_53, fr_51_54, fr_51_55, fr_51_56, fr_b_10, fr_b_11, fr_b_12, fr_b_13, fr_b_14, fr_b_15, fr_b_16, fr_b_17, fr_b_18, fr_b_19, fin_pI, fin_pJ, fin_wI, fin_wJ, fin_wG, sh_b_1, lt_b_1, sh_b_2, lt_b_2, sh_b_3, lt_b_3, sh_b_4, lt_b_4, sh_b_5, lt_b_5, sh_b_6, lt_b_6, sh_b_7, lt_b_7, sh_b_8, lt_b_8, sh_b_9, lt_b_9, sh_b_10, lt_b_10, sh_b, lt_b, nz_b, finN], by simp [gI_pI, gJ_pI, gR_pI, aI_pI, aJ_pI, aG_pI, gN_pI, gF_pI, gI_pJ, gJ_pJ, gR_pJ, aI_pJ, aJ_pJ, aG_pJ, gN_pJ, gF_pJ, gI_pR, gJ_pR, gR_pR, aI_pR, aJ_pR, aG_pR, gN_pR, gF_pR, gI_wI, gJ_wI, gR_wI, aI_wI, aJ_wI, aG_wI, gN_wI, gF_wI, gI_wJ, gJ_wJ, gR_wJ, aI_wJ, aJ_wJ, aG_wJ, gN_wJ, gF_wJ, gI_wG, gJ_wG, gR_wG, aI_wG, aJ_wG, aG_wG, gN_wG, gF_wG, fr_25_0, fr_26_0, fr_26_1, fr_26_2, fr_26_3, fr_26_4, fr_26_5, fr_26_6, fr_26_7, fr_26_8, fr_36_6, fr_36_7, fr_36_8, fr_36_9, fr_36_10, fr_36_11, fr_36_12, fr_36_13, fr_36_14, fr_46_0, fr_46_1, fr_1_0, fr_1_4, fr_1_5, fr_1_6, fr_1_7, fr_1_8, fr_1_9, fr_51_1, fr_51_12, fr_51_13, fr_51_14, fr_51_15, fr_51_16, fr_51_17, fr_51_18, fr_51_19, fr_51_20, fr_51_21, fr_51_34, fr_51_35, fr_51_36, fr_51_37, fr_51_38, fr_51_39, fr_51_40, fr_51_41, fr_51_42, fr_51_43, fr_51_44, fr_51_45, fr_51_46, fr_51_51, fr_51_52, fr_51_53, fr_51_54, fr_51_55, fr_51_56, fr_b_10, fr_b_11, fr_b_12, fr_b_13, fr_b_14, fr_b_15, fr_b_16, fr_b_17, fr_b_18, fr_b_19, fin_pI, fin_pJ, fin_wI, fin_wJ, fin_wG, sh_b_1, lt_b_1, sh_b_2, lt_b_2, sh_b_3, lt_b_3, sh_b_4, lt_b_4, sh_b_5, lt_b_5, sh_b_6, lt_b_6, sh_b_7, lt_b_7, sh_b_8, lt_b_8, sh_b_9, lt_b_9, sh_b_10, lt_b_10, sh_b, lt_b, nz_b, finN]⟩
  unfold DX3_failHere DX3_failAt
  simp (disch := first | assumption | omega) [ckO, ckI, ckZ, ckJ, ckG, ckR, ckL, ckV, ck01, chk_true, bnd_some, gI_pI, gJ_pI, gR_pI, aI_pI, aJ_pI, aG_pI, gN_pI, gF_pI, gI_pJ, gJ_pJ, gR_pJ, aI_pJ, aJ_pJ, aG_pJ, gN_pJ, gF_pJ, gI_pR, gJ_pR, gR_pR, aI_pR, aJ_pR, aG_pR, gN_pR, gF_pR, gI_wI, gJ_wI, gR_wI, aI_wI, aJ_wI, aG_wI, gN_wI, gF_wI, gI_wJ, gJ_wJ, gR_wJ, aI_wJ, aJ_wJ, aG_wJ, gN_wJ, gF_wJ, gI_wG, gJ_wG, gR_wG, aI_wG, aJ_wG, aG_wG, gN_wG, gF_wG, fr_25_0, fr_26_0, fr_26_1, fr_26_2, fr_26_3, fr_26_4, fr_26_5, fr_26_6, fr_26_7, fr_26_8, fr_36_6, fr_36_7, fr_36_8, fr_36_9, fr_36_10, fr_36_11, fr_36_12, fr_36_13, fr_36_14, fr_46_0, fr_46_1, fr_1_0, fr_1_4, fr_1_5, fr_1_6, fr_1_7, fr_1_8, fr_1_9, fr_51_1, fr_51_12, fr_51_13, fr_51_14, fr_51_15, fr_51_16, fr_51_17, fr_51_18, fr_51_19, fr_51_20, fr_51_21, fr_51_34, fr_51_35, fr_51_36, fr_51_37, fr_51_38, fr_51_39, fr_51_40, fr_51_41, fr_51_42, fr_51_43, fr_51_44, fr_51_45, fr_51_46, fr_51_51, fr_51_52, fr_51_53, fr_51_54, fr_51_55, fr_51_56, fr_b_10, fr_b_11, fr_b_12, fr_b_13, fr_b_14, fr_b_15, fr_b_16, fr_b_17, fr_b_18, fr_b_19, fin_pI, fin_pJ, fin_wI, fin_wJ, fin_wG, sh_b_1, lt_b_1, sh_b_2, lt_b_2, sh_b_3, lt_b_3, sh_b_4, lt_b_4, sh_b_5, lt_b_5, sh_b_6, lt_b_6, sh_b_7, lt_b_7, sh_b_8, lt_b_8, sh_b_9, lt_b_9, sh_b_10, lt_b_10, sh_b, lt_b, nz_b, finN, sh_1, sh_2, sh_25, sh_26, sh_27, sh_28, sh_29, sh_30, sh_31, sh_32, sh_33, sh_34, sh_35, sh_36, sh_37, sh_38, sh_39, sh_40, sh_41, sh_42, sh_43, sh_44, sh_45, sh_46, sh_47, sh_48, sh_49, sh_50, sh_51, sh_52, sh_53, sh_54, sh_55, sh_56, sh_57, sh_58, sh_59, sh_60, sh_61, sh_62, sh_63, sh_64, sh_65, sh_66, sh_67, sh_68, sh_69, sh_70, sh_71, sh_72, sh_73, sh_74, sh_75, sh_76, sh_77, sh_78, sh_79, sh_80, sh_81, sh_82, mul_nI_2, mul_nI_3, mul_nI_4, mul_nI_6, mul_nI_8, mul_nI_10, mul_nI_11, mul_nI_12, mul_nI_27, mul_nI_36, mul_nI_242, add_nI_0, dda_nI_0, add_nI_1, dda_nI_1, add_nI_2, dda_nI_2, add_nI_3, dda_nI_3, add_nI_4, dda_nI_4, add_nI_5, dda_nI_5, add_nI_6, dda_nI_6, add_nI_8, dda_nI_8, add_nI_12, dda_nI_12, add_nI_64, dda_nI_64, add_nI_128, dda_nI_128, add_nI_192, dda_nI_192, add_nI_228, dda_nI_228, add_nI_234, dda_nI_234, add_nI_242, dda_nI_242, sub_nI_1, sub_nI_2, sub_nI_20, sub_nI_242, inb_0, ixl_0, inb_1, ixl_1, inb_2, ixl_2, inb_3, ixl_3, inb_4, ixl_4, inb_5, ixl_5, inb_6, ixl_6, inb_7, ixl_7, inb_8, ixl_8, inb_9, ixl_9, inb_10, ixl_10, inb_11, ixl_11, nI_add, pk_mul, ixn, inbn, le_l0, l0_le, lt_l0, l0_lt, eq_l0, l0_eq, le_l1, l1_le, lt_l1, l1_lt, eq_l1, l1_eq, le_l2, l2_le, lt_l2, l2_lt, eq_l2, l2_eq, le_l3, l3_le, lt_l3, l3_lt, eq_l3, l3_eq, le_l4, l4_le, lt_l4, l4_lt, eq_l4, l4_eq, le_l5, l5_le, lt_l5, l5_lt, eq_l5, l5_eq, le_l6, l6_le, lt_l6, l6_lt, eq_l6, l6_eq, le_l8, l8_le, lt_l8, l8_lt, eq_l8, l8_eq, le_l9, l9_le, lt_l9, l9_lt, eq_l9, l9_eq, le_l10, l10_le, lt_l10, l10_lt, eq_l10, l10_eq, le_l11, l11_le, lt_l11, l11_lt, eq_l11, l11_eq, le_l12, l12_le, lt_l12, l12_lt, eq_l12, l12_eq, le_l14, l14_le, lt_l14, l14_lt, eq_l14, l14_eq, le_l16, l16_le, lt_l16, l16_lt, eq_l16, l16_eq, le_l20, l20_le, lt_l20, l20_lt, eq_l20, l20_eq, le_l24, l24_le, lt_l24, l24_lt, eq_l24, l24_eq, le_l64, l64_le, lt_l64, l64_lt, eq_l64, l64_eq, le_l72, l72_le, lt_l72, l72_lt, eq_l72, l72_eq, le_l242, l242_le, lt_l242, l242_lt, eq_l242, l242_eq, le_l1180, l1180_le, lt_l1180, l1180_lt, eq_l1180, l1180_eq, le_l1200, l1200_le, lt_l1200, l1200_lt, eq_l1200, l1200_eq, le_l3388, l3388_le, lt_l3388, l3388_lt, eq_l3388, l3388_eq, le_l200000, l200000_le, lt_l200000, l200000_lt, eq_l200000, l200000_eq, le_l1000000, l1000000_le, lt_l1000000, l1000000_lt, eq_l1000000, l1000000_eq, le_nI, lt_nI, eq_nI, wlet_eq, h5]
theorem c_failTaken {τ : Sg} {T : Nat → Int32} {n pt p a : Nat} {f : Int32} (h : CS T n τ pt p a) : ∃ υ, DX3_failTaken 25 f τ = some (0, υ) ∧ Fr (fF RdC) (fA []) τ υ ∧ FC f pt υ := by
  obtain ⟨hF, -, -, -, -, h8, -⟩ := h
  refine ⟨pI (pI τ 25 9 f) 25 10 (nI pt), ?_, (Fr.rf.pI 25 9 _ (by decide)).pI 25 10 _ (by decide), by simp [gI_pI, gJ_pI, gR_pI, aI_pI, aJ_pI, aG_pI, gN_pI, gF_pI, gI_pJ, gJ_pJ, gR_pJ, aI_pJ, aJ_pJ, aG_pJ, gN_pJ, gF_pJ, gI_pR, gJ_pR, gR_pR, aI_pR, aJ_pR, aG_pR, gN_pR, gF_pR, gI_wI, gJ_wI, gR_wI, aI_wI, aJ_wI, aG_wI, gN_wI, gF_wI, gI_wJ, gJ_wJ, gR_wJ, aI_wJ, aJ_wJ, aG_wJ, gN_wJ, gF_wJ, gI_wG, gJ_wG, gR_wG, aI_wG, aJ_wG, aG_wG, gN_wG, gF_wG, fr_25_0, fr_26_0, fr_26_1, fr_26_2, fr_26_3, fr_26_4, fr_26_5, fr_26_6, fr_26_7, fr_26_8, fr_36_6, fr_36_7, fr_36_8, fr_36_9, fr_36_10, fr_36_11, fr_36_12, fr_36_13, fr_36_14, fr_46_0, fr_46_1, fr_1_0, fr_1_4, fr_1_5, fr_1_6, fr_1_7, fr_1_8, fr_1_9, fr_51_1, fr_51_12, fr_51_13, fr_51_14, fr_51_15, fr_51_16, fr_51_17, fr_51_18, fr_51_19, fr_51_20, fr_51_21, fr_51_34, fr_51_35, fr_51_36, fr_51_37, fr_51_38, fr_51_39, fr_51_40, fr_51_41, fr_51_42, fr_51_43, fr_51_44, fr_51_45, fr_51_46, fr_51_51, fr_51_52, fr_51_53, fr_51_54, fr_51_55, fr_51_56, fr_b_10, fr_b_11, fr_b_12, fr_b_13, fr_b_14, fr_b_15, fr_b_16, fr_b_17, fr_b_18, fr_b_19, fin_pI, fin_pJ, fin_wI, fin_wJ, fin_wG, sh_b_1, lt_b_1, sh_b_2, lt_b_2, sh_b_3, lt_b_3, sh_b_4, lt_b_4, sh_b_5, lt_b_5, sh_b_6, lt_b_6, sh_b_7, lt_b_7, sh_b_8, lt_b_8, sh_b_9, lt_b_9, sh_b_10, lt_b_10, sh_b, lt_b, nz_b, finN], by simp [gI_pI, gJ_pI, gR_pI, aI_pI, aJ_pI, aG_pI, gN_pI, gF_pI, gI_pJ, gJ_pJ, gR_pJ, aI_pJ, aJ_pJ, aG_pJ, gN_pJ, gF_pJ, gI_pR, gJ_pR, gR_pR, aI_pR, aJ_pR, aG_pR, gN_pR, gF_pR, gI_wI, gJ_wI, gR_wI, aI_wI, aJ_wI, aG_wI, gN_wI, gF_wI, gI_wJ, gJ_wJ, gR_wJ, aI_wJ, aJ_wJ, aG_wJ, gN_wJ, gF_wJ, gI_wG, gJ_wG, gR_wG, aI_wG, aJ_wG, aG_wG, gN_wG, gF_wG, fr_25_0, fr_26_0, fr_26_1, fr_26_2, fr_26_3, fr_26_4, fr_26_5, fr_26_6, fr_26_7, fr_26_8, fr_36_6, fr_36_7, fr_36_8, fr_36_9, fr_36_10, fr_36_11, fr_36_12, fr_36_13, fr_36_14, fr_46_0, fr_46_1, fr_1_0, fr_1_4, fr_1_5, fr_1_6, fr_1_7, fr_1_8, fr_1_9, fr_51_1, fr_51_12, fr_51_13, fr_51_14, fr_51_15, fr_51_16, fr_51_17, fr_51_18, fr_51_19, fr_51_20, fr_51_21, fr_51_34, fr_51_35, fr_51_36, fr_51_37, fr_51_38, fr_51_39, fr_51_40, fr_51_41, fr_51_42, fr_51_43, fr_51_44, fr_51_45, fr_51_46, fr_51_51, fr_51_52, fr_51_53, fr_51_54, fr_51_55, fr_51_56, fr_b_10, fr_b_11, fr_b_12, fr_b_13, fr_b_14, fr_b_15, fr_b_16, fr_b_17, fr_b_18, fr_b_19, fin_pI, fin_pJ, fin_wI, fin_wJ, fin_wG, sh_b_1, lt_b_1, sh_b_2, lt_b_2, sh_b_3, lt_b_3, sh_b_4, lt_b_4, sh_b_5, lt_b_5, sh_b_6, lt_b_6, sh_b_7, lt_b_7, sh_b_8, lt_b_8, sh_b_9, lt_b_9, sh_b_10, lt_b_10, sh_b, lt_b, nz_b, finN]⟩
  unfold DX3_failTaken DX3_failAt
  simp (disch := first | assumption | omega) [ckO, ckI, ckZ, ckJ, ckG, ckR, ckL, ckV, ck01, chk_true, bnd_some, gI_pI, gJ_pI, gR_pI, aI_pI, aJ_pI, aG_pI, gN_pI, gF_pI, gI_pJ, gJ_pJ, gR_pJ, aI_pJ, aJ_pJ, aG_pJ, gN_pJ, gF_pJ, gI_pR, gJ_pR, gR_pR, aI_pR, aJ_pR, aG_pR, gN_pR, gF_pR, gI_wI, gJ_wI, gR_wI, aI_wI, aJ_wI, aG_wI, gN_wI, gF_wI, gI_wJ, gJ_wJ, gR_wJ, aI_wJ, aJ_wJ, aG_wJ, gN_wJ, gF_wJ, gI_wG, gJ_wG, gR_wG, aI_wG, aJ_wG, aG_wG, gN_wG, gF_wG, fr_25_0, fr_26_0, fr_26_1, fr_26_2, fr_26_3, fr_26_4, fr_26_5, fr_26_6, fr_26_7, fr_26_8, fr_36_6, fr_36_7, fr_36_8, fr_36_9, fr_36_10, fr_36_11, fr_36_12, fr_36_13, fr_36_14, fr_46_0, fr_46_1, fr_1_0, fr_1_4, fr_1_5, fr_1_6, fr_1_7, fr_1_8, fr_1_9, fr_51_1, fr_51_12, fr_51_13, fr_51_14, fr_51_15, fr_51_16, fr_51_17, fr_51_18, fr_51_19, fr_51_20, fr_51_21, fr_51_34, fr_51_35, fr_51_36, fr_51_37, fr_51_38, fr_51_39, fr_51_40, fr_51_41, fr_51_42, fr_51_43, fr_51_44, fr_51_45, fr_51_46, fr_51_51, fr_51_52, fr_51_53, fr_51_54, fr_51_55, fr_51_56, fr_b_10, fr_b_11, fr_b_12, fr_b_13, fr_b_14, fr_b_15, fr_b_16, fr_b_17, fr_b_18, fr_b_19, fin_pI, fin_pJ, fin_wI, fin_wJ, fin_wG, sh_b_1, lt_b_1, sh_b_2, lt_b_2, sh_b_3, lt_b_3, sh_b_4, lt_b_4, sh_b_5, lt_b_5, sh_b_6, lt_b_6, sh_b_7, lt_b_7, sh_b_8, lt_b_8, sh_b_9, lt_b_9, sh_b_10, lt_b_10, sh_b, lt_b, nz_b, finN, sh_1, sh_2, sh_25, sh_26, sh_27, sh_28, sh_29, sh_30, sh_31, sh_32, sh_33, sh_34, sh_35, sh_36, sh_37, sh_38, sh_39, sh_40, sh_41, sh_42, sh_43, sh_44, sh_45, sh_46, sh_47, sh_48, sh_49, sh_50, sh_51, sh_52, sh_53, sh_54, sh_55, sh_56, sh_57, sh_58, sh_59, sh_60, sh_61, sh_62, sh_63, sh_64, sh_65, sh_66, sh_67, sh_68, sh_69, sh_70, sh_71, sh_72, sh_73, sh_74, sh_75, sh_76, sh_77, sh_78, sh_79, sh_80, sh_81, sh_82, mul_nI_2, mul_nI_3, mul_nI_4, mul_nI_6, mul_nI_8, mul_nI_10, mul_nI_11, mul_nI_12, mul_nI_27, mul_nI_36, mul_nI_242, add_nI_0, dda_nI_0, add_nI_1, dda_nI_1, add_nI_2, dda_nI_2, add_nI_3, dda_nI_3, add_nI_4, dda_nI_4, add_nI_5, dda_nI_5, add_nI_6, dda_nI_6, add_nI_8, dda_nI_8, add_nI_12, dda_nI_12, add_nI_64, dda_nI_64, add_nI_128, dda_nI_128, add_nI_192, dda_nI_192, add_nI_228, dda_nI_228, add_nI_234, dda_nI_234, add_nI_242, dda_nI_242, sub_nI_1, sub_nI_2, sub_nI_20, sub_nI_242, inb_0, ixl_0, inb_1, ixl_1, inb_2, ixl_2, inb_3, ixl_3, inb_4, ixl_4, inb_5, ixl_5, inb_6, ixl_6, inb_7, ixl_7, inb_8, ixl_8, inb_9, ixl_9, inb_10, ixl_10, inb_11, ixl_11, nI_add, pk_mul, ixn, inbn, le_l0, l0_le, lt_l0, l0_lt, eq_l0, l0_eq, le_l1, l1_le, lt_l1, l1_lt, eq_l1, l1_eq, le_l2, l2_le, lt_l2, l2_lt, eq_l2, l2_eq, le_l3, l3_le, lt_l3, l3_lt, eq_l3, l3_eq, le_l4, l4_le, lt_l4, l4_lt, eq_l4, l4_eq, le_l5, l5_le, lt_l5, l5_lt, eq_l5, l5_eq, le_l6, l6_le, lt_l6, l6_lt, eq_l6, l6_eq, le_l8, l8_le, lt_l8, l8_lt, eq_l8, l8_eq, le_l9, l9_le, lt_l9, l9_lt, eq_l9, l9_eq, le_l10, l10_le, lt_l10, l10_lt, eq_l10, l10_eq, le_l11, l11_le, lt_l11, l11_lt, eq_l11, l11_eq, le_l12, l12_le, lt_l12, l12_lt, eq_l12, l12_eq, le_l14, l14_le, lt_l14, l14_lt, eq_l14, l14_eq, le_l16, l16_le, lt_l16, l16_lt, eq_l16, l16_eq, le_l20, l20_le, lt_l20, l20_lt, eq_l20, l20_eq, le_l24, l24_le, lt_l24, l24_lt, eq_l24, l24_eq, le_l64, l64_le, lt_l64, l64_lt, eq_l64, l64_eq, le_l72, l72_le, lt_l72, l72_lt, eq_l72, l72_eq, le_l242, l242_le, lt_l242, l242_lt, eq_l242, l242_eq, le_l1180, l1180_le, lt_l1180, l1180_lt, eq_l1180, l1180_eq, le_l1200, l1200_le, lt_l1200, l1200_lt, eq_l1200, l1200_eq, le_l3388, l3388_le, lt_l3388, l3388_lt, eq_l3388, l3388_eq, le_l200000, l200000_le, lt_l200000, l200000_lt, eq_l200000, l200000_eq, le_l1000000, l1000000_le, lt_l1000000, l1000000_lt, eq_l1000000, l1000000_eq, le_nI, lt_nI, eq_nI, wlet_eq, h8]
theorem CS.tk {τ : Sg} {T : Nat → Int32} {n pt p a : Nat} (h : CS T n τ pt p a) : gR τ 25 4 = 1000 + tkF T n p := h.2.2.2.2.2.2.2.2.2.2.1.1
theorem CS.tw {τ : Sg} {T : Nat → Int32} {n pt p a : Nat} (h : CS T n τ pt p a) : tkF T n p = 4 → gJ τ 25 6 = nmX T n p := h.2.2.2.2.2.2.2.2.2.2.1.2.1
theorem CS.tn {τ : Sg} {T : Nat → Int32} {n pt p a : Nat} (h : CS T n τ pt p a) : tkF T n p = 3 → gI τ 25 7 = nI (nuC T (n - p) p 0) := h.2.2.2.2.2.2.2.2.2.2.1.2.2
theorem MS.st {μ : Sg} {T : Nat → Int32} {n p a : Nat} (h : MS T n μ p a) : gI μ 51 26 = srT (tkF T n p) := h.2.2.2.2.2.2.2.2.2.2.1
theorem MS.vl {μ : Sg} {T : Nat → Int32} {n p a : Nat} (h : MS T n μ p a) : 4 ≤ tkF T n p → gI μ 51 27 = vlT (tkF T n p) := h.2.2.2.2.2.2.2.2.2.2.2.1
theorem MS.wd {μ : Sg} {T : Nat → Int32} {n p a : Nat} (h : MS T n μ p a) : tkF T n p = 4 → gI μ 51 28 = nmY T n p := h.2.2.2.2.2.2.2.2.2.2.2.2.1
theorem MS.nu {μ : Sg} {T : Nat → Int32} {n p a : Nat} (h : MS T n μ p a) : tkF T n p = 3 → gI μ 51 27 = nI (nuM T (n - p) p 0) := h.2.2.2.2.2.2.2.2.2.2.2.2.2
theorem MS.fr {μ ω : Sg} {T : Nat → Int32} {n p a : Nat} {l : List (Nat × Nat)} {m : List Nat} (h : MS T n μ p a) (hf : Fr (fF l) (fA m) μ ω) (h1 : ([(51, 23), (51, 24), (51, 25), (51, 26), (51, 27), (51, 28)].all fun q => !(fF l q.1 q.2)) = true) (h2 : (frL.all fun q => !(fF l q.1 q.2.1)) = true) (h3 : fA m 52 = false) : MS T n ω p a := by
  obtain ⟨a1, a2, a3, a4, a5, a6, a7, a8, a9, a10, b1, b2, b3, b4⟩ := h
  have g : ∀ k, (51, k) ∈ [(51, 23), (51, 24), (51, 25), (51, 26), (51, 27), (51, 28)] → gI ω 51 k = gI μ 51 k := fun k hk => hf.I 51 k (by simpa using List.all_eq_true.mp h1 (51, k) hk)
  refine ⟨hf.fin a1 h2, (g 23 (by decide)).trans a2, fun i hi => (hf.aI 52 h3 i).trans (a3 i hi), (g 24 (by decide)).trans a4, (g 25 (by decide)).trans a5, a6, a7, a8, a9, a10, ?_⟩
  unfold MTk
  rw [g 26 (by decide), g 27 (by decide), g 28 (by decide)]
  exact ⟨b1, b2, b3, b4⟩
theorem CS.fr {τ υ : Sg} {T : Nat → Int32} {n pt p a : Nat} {l : List (Nat × Nat)} {m : List Nat} (h : CS T n τ pt p a) (hf : Fr (fF l) (fA m) τ υ) (h1 : ([(25, 2), (25, 3), (25, 4), (25, 5), (25, 6), (25, 7), (25, 8), (25, 9), (25, 10)].all fun q => !(fF l q.1 q.2)) = true) (h2 : (frL.all fun q => !(fF l q.1 q.2.1)) = true) (h3 : fA m 2 = false) : CS T n υ pt p a := by
  obtain ⟨a1, a2, a3, a4, a5, a6, a7, a8, a9, a10, ⟨b1, b2, b3⟩, d1, d2⟩ := h
  have g0 : ∀ k, (25, k) ∈ [(25, 2), (25, 3), (25, 4), (25, 5), (25, 6), (25, 7), (25, 8), (25, 9), (25, 10)] → fF l 25 k = false := fun k hk => by simpa using List.all_eq_true.mp h1 (25, k) hk
  refine ⟨hf.fin a1 h2, (hf.I 25 2 (g0 2 (by decide))).trans a2, fun i hi => (hf.aI 2 h3 i).trans (a3 i hi), (hf.I 25 3 (g0 3 (by decide))).trans a4, (hf.I 25 5 (g0 5 (by decide))).trans a5, (hf.I 25 8 (g0 8 (by decide))).trans a6, a7, a8, a9, a10, ?_, (hf.I 25 9 (g0 9 (by decide))).trans d1, (hf.I 25 10 (g0 10 (by decide))).trans d2⟩
  unfold CTk
  rw [hf.R 25 4 (g0 4 (by decide)), hf.J 25 6 (g0 6 (by decide)), hf.I 25 7 (g0 7 (by decide))]
  exact ⟨b1, b2, b3⟩

/-- what is settled of each coupon while sharing goes on -/
def StC (σ : Sg) (n fl : Nat) (bv : Nat → Int32) (wh : Nat → Int) : Prop := ∀ k, fl ≤ k → k < n → aI σ 40 k = bv k ∧ (aI σ 43 k).toInt = wh k ∧ aJ σ 44 k = 0 ∧ 0 ≤ wh k ∧ wh k ≤ 9999999
abbrev ptB (B : Nat → Bool) (N : Nat → Int) (P : Int) (k : Nat) : Int := if B k then P * N k else 0
abbrev unB (B : Nat → Bool) (N : Nat → Int) (fl n : Nat) : Int := sI (fun k => if B k then N k else 0) fl (n - fl)
/-- shares and rests when all is parted -/
def FiS (σ : Sg) (n fl : Nat) (bv : Nat → Int32) (wh pt : Nat → Int) (un : Int) : Prop := ∀ k, fl ≤ k → k < n → aI σ 40 k = bv k ∧ (aI σ 43 k).toInt = wh k + pt k / un ∧ (aJ σ 44 k).toInt = pt k % un
theorem sI_mem {f : Nat → Int} : ∀ (d i : Nat), (∀ k, i ≤ k → k < i + d → 0 ≤ f k) → ∀ k, i ≤ k → k < i + d → f k ≤ sI f i d
  | 0, _, _, k, a, b => by omega
  | d + 1, i, h, k, a, b => by
    unfold sI
    have h0 : 0 ≤ sI f (i + 1) d := by
      have := sI_le (f := fun _ => 0) (g := f) d (i + 1) (fun k h1 h2 => h k (by omega) (by omega))
      rw [sI_zero d (i + 1) (fun _ _ _ => rfl)] at this
      exact this
    by_cases hk : k = i
    · subst hk; omega
    · have := sI_mem d (i + 1) (fun k h1 h2 => h k (by omega) (by omega)) k (by omega) (by omega)
      have := h i (Nat.le_refl _) (by omega)
      omega
theorem s_part {σ : Sg} {n fl a : Nat} {bv : Nat → Int32} {wh : Nat → Int} {B : Nat → Bool} (hC : ShC σ n fl) (ha : shp a = (4, 8, 0)) (ha2 : a < 51) (ha3 : a ≠ 44)
    (hb : ∀ k, fl ≤ k → k < n → 0 ≤ (aJ σ a k).toInt ∧ (aJ σ a k).toInt ≤ 1000000000) (hpl : 0 ≤ spl σ ∧ spl σ ≤ 9999999) (hs : StC σ n fl bv wh)
    (hB : ∀ k, fl ≤ k → k < n → (aI σ 45 k = 0 ↔ B k = false)) :
    Ok (DX5_partPool 36 a σ) (fun _ υ => Fr (fF [(36, 15)]) (fA [43, 44]) σ υ ∧ FiS υ n fl bv wh (ptB B (fun k => (aJ σ a k).toInt) (spl σ)) (unB B (fun k => (aJ σ a k).toInt) fl n) ∧
      (∀ k, k < fl → aI υ 43 k = aI σ 43 k) ∧ spl υ = spl σ - sI (fun k => ptB B (fun k => (aJ σ a k).toInt) (spl σ) k / unB B (fun k => (aJ σ a k).toInt) fl n) fl (n - fl)) := by
  obtain ⟨S, e1, e2, e3⟩ := s_pp hC ha ha2 ha3 hb hpl
  have eU : S.toInt = unB B (fun k => (aJ σ a k).toInt) fl n := by
    rw [e1]
    refine sI_congr _ _ (fun k k1 k2 => ?_)
    have := hB k k1 (by omega)
    unfold amF
    cases hk : B k with
    | false => rw [hk] at this; rw [if_pos (this.mpr rfl)]; rfl
    | true => rw [hk] at this; rw [if_neg (fun z => by have := this.mp z; cases this)]; rfl
  have n0 : ∀ k, fl ≤ k → k < fl + (n - fl) → 0 ≤ (fun k => if B k then (aJ σ a k).toInt else 0) k := by
    intro k k1 k2
    have := (hb k k1 (by omega)).1
    simp only
    split <;> omega
  have hU0 : 0 ≤ S.toInt := by
    rw [eU]
    have := sI_le (f := fun _ => 0) (n - fl) fl n0
    rw [sI_zero (n - fl) fl (fun _ _ _ => rfl)] at this
    exact this
  by_cases hS : 0 < S.toInt
  · refine (e3 hS).mono (fun _ υ hq => ⟨hq.1, fun k k1 k2 => ?_, hq.2.2.1, ?_⟩)
    · obtain ⟨s1, s2, s3, s4, s5⟩ := hs k k1 k2
      obtain ⟨p1, p2⟩ := hq.2.1 k k1 k2
      obtain ⟨q1, q2⟩ := ptQ_int (N := aJ σ a k) hS hpl (hb k k1 k2)
      refine ⟨(hq.1.aI 40 rfl k).trans s1, ?_, ?_⟩
      · have := hB k k1 k2
        rw [p1]
        cases hk : B k with
        | false => rw [hk] at this; rw [if_pos (this.mpr rfl), s2]; simp [ptB, hk]
        | true =>
          rw [hk] at this
          rw [if_neg (fun z => by have := this.mp z; cases this)]
          have m1 := sI_mem (n - fl) fl n0 k k1 (by omega)
          have m2 : (aJ σ a k).toInt ≤ S.toInt := by
            rw [eU]
            simpa [hk] using m1
          have m3 : (gJ σ 36 15).toInt * (aJ σ a k).toInt / S.toInt ≤ (gJ σ 36 15).toInt := by
            refine Int.ediv_le_of_le_mul hS ?_
            exact Int.mul_le_mul_of_nonneg_left m2 hpl.1
          have m4 : 0 ≤ (gJ σ 36 15).toInt * (aJ σ a k).toInt / S.toInt := Int.ediv_nonneg (Int.mul_nonneg hpl.1 (hb k k1 k2).1) (by omega)
          have h9 := hpl.2
          have m5 : ((ptQ (gJ σ 36 15) (aJ σ a k) S).toInt32).toInt = (gJ σ 36 15).toInt * (aJ σ a k).toInt / S.toInt := by
            rw [l_i (by rw [q1]; omega) (by rw [q1]; unfold spl at h9; omega), q1]
          rw [i_add (by rw [m5]; omega) (by rw [m5]; unfold spl at h9; omega), m5, s2, ← eU]
          simp [ptB, hk]
      · have := hB k k1 k2
        rw [p2]
        cases hk : B k with
        | false => rw [hk] at this; rw [if_pos (this.mpr rfl), s3, l_0]; simp [ptB, hk]
        | true =>
          rw [hk] at this
          rw [if_neg (fun z => by have := this.mp z; cases this), q2, ← eU]
          simp [ptB, hk]
    · show (gJ υ 36 15).toInt = _
      rw [hq.2.2.2]
      congr 1
      refine sI_congr _ _ (fun k k1 k2 => ?_)
      obtain ⟨q1, q2⟩ := ptQ_int (N := aJ σ a k) hS hpl (hb k k1 (by omega))
      have := hB k k1 (by omega)
      unfold amF
      cases hk : B k with
      | false => rw [hk] at this; rw [if_pos (this.mpr rfl)]; simp [ptB, hk]
      | true => rw [hk] at this; rw [if_neg (fun z => by have := this.mp z; cases this)]; show (ptQ (gJ σ 36 15) (aJ σ a k) S).toInt = _; rw [q1, ← eU]; simp [ptB, hk]
  · have z0 : ∀ k, fl ≤ k → k < n → ptB B (fun k => (aJ σ a k).toInt) (spl σ) k = 0 := by
      intro k k1 k2
      have := sI_pos (n - fl) fl n0 (by show unB B (fun k => (aJ σ a k).toInt) fl n = 0; omega) k k1 (by omega)
      unfold ptB
      split
      · rename_i hk
        rw [if_pos hk] at this
        show spl σ * (aJ σ a k).toInt = 0
        rw [this, Int.mul_zero]
      · rfl
    refine ⟨(), σ, e2 (by omega), Fr.rf, fun k k1 k2 => ?_, fun _ _ => rfl, ?_⟩
    · obtain ⟨s1, s2, s3, s4, s5⟩ := hs k k1 k2
      rw [z0 k k1 k2, Int.zero_ediv, Int.zero_emod, s3]
      exact ⟨s1, by omega, l_0⟩
    · rw [sI_zero _ _ (fun k k1 k2 => by rw [z0 k k1 (by omega), Int.zero_ediv])]
      omega
theorem s_among5 {σ : Sg} {n fl : Nat} (g : Int32) (hC : ShC σ n fl) : ∀ (d i m : Nat) (τ : Sg), i + d = n → d < m → fl ≤ i → Fr (fF []) (fA [45]) σ τ →
    (∀ k, fl ≤ k → k < i → aI τ 45 k = if aI σ 40 k = g then 1 else 0) →
    ∃ υ, DX5_partAmong_5 m 36 g (nI i) τ = DX5_partAmong_40 36 υ ∧ Fr (fF []) (fA [45]) σ υ ∧ ∀ k, fl ≤ k → k < n → aI υ 45 k = if aI σ 40 k = g then 1 else 0 := by
  intro d
  induction d with
  | zero =>
    intro i m τ hi hm hfi hfr h1
    obtain ⟨m, rfl⟩ : ∃ k, m = k + 1 := ⟨m - 1, by omega⟩
    obtain ⟨hF0, g2, g3, g4, g5⟩ := hC.fr hfr (by decide) rfl rfl
    refine ⟨τ, ?_, hfr, fun k a b => h1 k a (by omega)⟩
    rw [DX5_partAmong_5]
    simp (disch := first | assumption | omega) [ckO, ckI, ckZ, ckJ, ckG, ckR, ckL, ckV, chk_true, g2, gI_pI, gJ_pI, gR_pI, aI_pI, aJ_pI, aG_pI, gN_pI, gF_pI, gM_pI, gZ_pI, tl_pI, gI_pJ, gJ_pJ, gR_pJ, aI_pJ, aJ_pJ, aG_pJ, gN_pJ, gF_pJ, gM_pJ, gZ_pJ, tl_pJ, gI_pR, gJ_pR, gR_pR, aI_pR, aJ_pR, aG_pR, gN_pR, gF_pR, gM_pR, gZ_pR, tl_pR, gI_wI, gJ_wI, gR_wI, aI_wI, aJ_wI, aG_wI, gN_wI, gF_wI, gM_wI, gZ_wI, tl_wI, gI_wJ, gJ_wJ, gR_wJ, aI_wJ, aJ_wJ, aG_wJ, gN_wJ, gF_wJ, gM_wJ, gZ_wJ, tl_wJ, gI_wG, gJ_wG, gR_wG, aI_wG, aJ_wG, aG_wG, gN_wG, gF_wG, gM_wG, gZ_wG, tl_wG, gS_pI, gS_pJ, gS_pR, gS_wI, gS_wJ, gS_wG, fr_25_0, fr_26_0, fr_26_1, fr_26_2, fr_26_3, fr_26_4, fr_26_5, fr_26_6, fr_26_7, fr_26_8, fr_36_6, fr_36_7, fr_36_8, fr_36_9, fr_36_10, fr_36_11, fr_36_12, fr_36_13, fr_36_14, fr_46_0, fr_46_1, fr_1_0, fr_1_4, fr_1_5, fr_1_6, fr_1_7, fr_1_8, fr_1_9, fr_b_10, fr_b_11, fr_b_12, fr_b_13, fr_b_14, fr_b_15, fr_b_16, fr_b_17, fr_b_18, fr_b_19, fin_pI, fin_pJ, fin_wI, fin_wJ, fin_wG, sh_b_1, lt_b_1, sh_b_2, lt_b_2, sh_b_3, lt_b_3, sh_b_4, lt_b_4, sh_b_5, lt_b_5, sh_b_6, lt_b_6, sh_b_7, lt_b_7, sh_b_8, lt_b_8, sh_b_9, lt_b_9, sh_b_10, lt_b_10, sh_b, lt_b, nz_b, finN, sh_1, sh_2, sh_25, sh_26, sh_27, sh_28, sh_29, sh_30, sh_31, sh_32, sh_33, sh_34, sh_35, sh_36, sh_37, sh_38, sh_39, sh_40, sh_41, sh_42, sh_43, sh_44, sh_45, sh_46, sh_47, sh_48, sh_49, sh_50, mul_nI_2, mul_nI_3, mul_nI_4, mul_nI_6, mul_nI_8, mul_nI_10, mul_nI_11, mul_nI_12, mul_nI_27, mul_nI_36, mul_nI_242, add_nI_0, dda_nI_0, add_nI_1, dda_nI_1, add_nI_2, dda_nI_2, add_nI_3, dda_nI_3, add_nI_4, dda_nI_4, add_nI_5, dda_nI_5, add_nI_6, dda_nI_6, add_nI_8, dda_nI_8, add_nI_12, dda_nI_12, add_nI_64, dda_nI_64, add_nI_128, dda_nI_128, add_nI_192, dda_nI_192, add_nI_228, dda_nI_228, add_nI_234, dda_nI_234, add_nI_242, dda_nI_242, sub_nI_1, sub_nI_2, sub_nI_20, sub_nI_242, inb_0, ixl_0, inb_1, ixl_1, inb_2, ixl_2, inb_3, ixl_3, inb_4, ixl_4, inb_5, ixl_5, inb_6, ixl_6, inb_7, ixl_7, inb_8, ixl_8, inb_9, ixl_9, inb_10, ixl_10, inb_11, ixl_11, nI_add, pk_mul, ixn, inbn, le_l0, l0_le, lt_l0, l0_lt, eq_l0, l0_eq, le_l1, l1_le, lt_l1, l1_lt, eq_l1, l1_eq, le_l2, l2_le, lt_l2, l2_lt, eq_l2, l2_eq, le_l3, l3_le, lt_l3, l3_lt, eq_l3, l3_eq, le_l4, l4_le, lt_l4, l4_lt, eq_l4, l4_eq, le_l5, l5_le, lt_l5, l5_lt, eq_l5, l5_eq, le_l6, l6_le, lt_l6, l6_lt, eq_l6, l6_eq, le_l8, l8_le, lt_l8, l8_lt, eq_l8, l8_eq, le_l9, l9_le, lt_l9, l9_lt, eq_l9, l9_eq, le_l10, l10_le, lt_l10, l10_lt, eq_l10, l10_eq, le_l11, l11_le, lt_l11, l11_lt, eq_l11, l11_eq, le_l12, l12_le, lt_l12, l12_lt, eq_l12, l12_eq, le_l14, l14_le, lt_l14, l14_lt, eq_l14, l14_eq, le_l16, l16_le, lt_l16, l16_lt, eq_l16, l16_eq, le_l20, l20_le, lt_l20, l20_lt, eq_l20, l20_eq, le_l24, l24_le, lt_l24, l24_lt, eq_l24, l24_eq, le_l64, l64_le, lt_l64, l64_lt, eq_l64, l64_eq, le_l72, l72_le, lt_l72, l72_lt, eq_l72, l72_eq, le_l242, l242_le, lt_l242, l242_lt, eq_l242, l242_eq, le_l1180, l1180_le, lt_l1180, l1180_lt, eq_l1180, l1180_eq, le_l1200, l1200_le, lt_l1200, l1200_lt, eq_l1200, l1200_eq, le_l3388, l3388_le, lt_l3388, l3388_lt, eq_l3388, l3388_eq, le_l200000, l200000_le, lt_l200000, l200000_lt, eq_l200000, l200000_eq, le_l1000000, l1000000_le, lt_l1000000, l1000000_lt, eq_l1000000, l1000000_eq, le_nI, lt_nI, eq_nI, show n ≤ i by omega]
  | succ d ih =>
    intro i m τ hi hm hfi hfr h1
    obtain ⟨m, rfl⟩ : ∃ k, m = k + 1 := ⟨m - 1, by omega⟩
    obtain ⟨hF0, g2, g3, g4, g5⟩ := hC.fr hfr (by decide) rfl rfl
    have e40 : aI τ 40 i = aI σ 40 i := hfr.aI 40 rfl i
    have e : DX5_partAmong_5 (m + 1) 36 g (nI i) τ = DX5_partAmong_5 m 36 g (nI (i + 1)) (wI τ 45 i (if aI σ 40 i = g then 1 else 0)) := by
      rw [DX5_partAmong_5]
      by_cases hg : aI σ 40 i = g
      · simp (disch := first | assumption | omega) [DX5_partAmong_33, ck01, wlet_eq, ckO, ckI, ckZ, ckJ, ckG, ckR, ckL, ckV, chk_true, g2, gI_pI, gJ_pI, gR_pI, aI_pI, aJ_pI, aG_pI, gN_pI, gF_pI, gM_pI, gZ_pI, tl_pI, gI_pJ, gJ_pJ, gR_pJ, aI_pJ, aJ_pJ, aG_pJ, gN_pJ, gF_pJ, gM_pJ, gZ_pJ, tl_pJ, gI_pR, gJ_pR, gR_pR, aI_pR, aJ_pR, aG_pR, gN_pR, gF_pR, gM_pR, gZ_pR, tl_pR, gI_wI, gJ_wI, gR_wI, aI_wI, aJ_wI, aG_wI, gN_wI, gF_wI, gM_wI, gZ_wI, tl_wI, gI_wJ, gJ_wJ, gR_wJ, aI_wJ, aJ_wJ, aG_wJ, gN_wJ, gF_wJ, gM_wJ, gZ_wJ, tl_wJ, gI_wG, gJ_wG, gR_wG, aI_wG, aJ_wG, aG_wG, gN_wG, gF_wG, gM_wG, gZ_wG, tl_wG, gS_pI, gS_pJ, gS_pR, gS_wI, gS_wJ, gS_wG, fr_25_0, fr_26_0, fr_26_1, fr_26_2, fr_26_3, fr_26_4, fr_26_5, fr_26_6, fr_26_7, fr_26_8, fr_36_6, fr_36_7, fr_36_8, fr_36_9, fr_36_10, fr_36_11, fr_36_12, fr_36_13, fr_36_14, fr_46_0, fr_46_1, fr_1_0, fr_1_4, fr_1_5, fr_1_6, fr_1_7, fr_1_8, fr_1_9, fr_b_10, fr_b_11, fr_b_12, fr_b_13, fr_b_14, fr_b_15, fr_b_16, fr_b_17, fr_b_18, fr_b_19, fin_pI, fin_pJ, fin_wI, fin_wJ, fin_wG, sh_b_1, lt_b_1, sh_b_2, lt_b_2, sh_b_3, lt_b_3, sh_b_4, lt_b_4, sh_b_5, lt_b_5, sh_b_6, lt_b_6, sh_b_7, lt_b_7, sh_b_8, lt_b_8, sh_b_9, lt_b_9, sh_b_10, lt_b_10, sh_b, lt_b, nz_b, finN, sh_1, sh_2, sh_25, sh_26, sh_27, sh_28, sh_29, sh_30, sh_31, sh_32, sh_33, sh_34, sh_35, sh_36, sh_37, sh_38, sh_39, sh_40, sh_41, sh_42, sh_43, sh_44, sh_45, sh_46, sh_47, sh_48, sh_49, sh_50, mul_nI_2, mul_nI_3, mul_nI_4, mul_nI_6, mul_nI_8, mul_nI_10, mul_nI_11, mul_nI_12, mul_nI_27, mul_nI_36, mul_nI_242, add_nI_0, dda_nI_0, add_nI_1, dda_nI_1, add_nI_2, dda_nI_2, add_nI_3, dda_nI_3, add_nI_4, dda_nI_4, add_nI_5, dda_nI_5, add_nI_6, dda_nI_6, add_nI_8, dda_nI_8, add_nI_12, dda_nI_12, add_nI_64, dda_nI_64, add_nI_128, dda_nI_128, add_nI_192, dda_nI_192, add_nI_228, dda_nI_228, add_nI_234, dda_nI_234, add_nI_242, dda_nI_242, sub_nI_1, sub_nI_2, sub_nI_20, sub_nI_242, inb_0, ixl_0, inb_1, ixl_1, inb_2, ixl_2, inb_3, ixl_3, inb_4, ixl_4, inb_5, ixl_5, inb_6, ixl_6, inb_7, ixl_7, inb_8, ixl_8, inb_9, ixl_9, inb_10, ixl_10, inb_11, ixl_11, nI_add, pk_mul, ixn, inbn, le_l0, l0_le, lt_l0, l0_lt, eq_l0, l0_eq, le_l1, l1_le, lt_l1, l1_lt, eq_l1, l1_eq, le_l2, l2_le, lt_l2, l2_lt, eq_l2, l2_eq, le_l3, l3_le, lt_l3, l3_lt, eq_l3, l3_eq, le_l4, l4_le, lt_l4, l4_lt, eq_l4, l4_eq, le_l5, l5_le, lt_l5, l5_lt, eq_l5, l5_eq, le_l6, l6_le, lt_l6, l6_lt, eq_l6, l6_eq, le_l8, l8_le, lt_l8, l8_lt, eq_l8, l8_eq, le_l9, l9_le, lt_l9, l9_lt, eq_l9, l9_eq, le_l10, l10_le, lt_l10, l10_lt, eq_l10, l10_eq, le_l11, l11_le, lt_l11, l11_lt, eq_l11, l11_eq, le_l12, l12_le, lt_l12, l12_lt, eq_l12, l12_eq, le_l14, l14_le, lt_l14, l14_lt, eq_l14, l14_eq, le_l16, l16_le, lt_l16, l16_lt, eq_l16, l16_eq, le_l20, l20_le, lt_l20, l20_lt, eq_l20, l20_eq, le_l24, l24_le, lt_l24, l24_lt, eq_l24, l24_eq, le_l64, l64_le, lt_l64, l64_lt, eq_l64, l64_eq, le_l72, l72_le, lt_l72, l72_lt, eq_l72, l72_eq, le_l242, l242_le, lt_l242, l242_lt, eq_l242, l242_eq, le_l1180, l1180_le, lt_l1180, l1180_lt, eq_l1180, l1180_eq, le_l1200, l1200_le, lt_l1200, l1200_lt, eq_l1200, l1200_eq, le_l3388, l3388_le, lt_l3388, l3388_lt, eq_l3388, l3388_eq, le_l200000, l200000_le, lt_l200000, l200000_lt, eq_l200000, l200000_eq, le_l1000000, l1000000_le, lt_l1000000, l1000000_lt, eq_l1000000, l1000000_eq, le_nI, lt_nI, eq_nI, show i < 8 by omega, show ¬ n ≤ i by omega, e40, hg]
      · simp (disch := first | assumption | omega) [DX5_partAmong_33, ck01, wlet_eq, ckO, ckI, ckZ, ckJ, ckG, ckR, ckL, ckV, chk_true, g2, gI_pI, gJ_pI, gR_pI, aI_pI, aJ_pI, aG_pI, gN_pI, gF_pI, gM_pI, gZ_pI, tl_pI, gI_pJ, gJ_pJ, gR_pJ, aI_pJ, aJ_pJ, aG_pJ, gN_pJ, gF_pJ, gM_pJ, gZ_pJ, tl_pJ, gI_pR, gJ_pR, gR_pR, aI_pR, aJ_pR, aG_pR, gN_pR, gF_pR, gM_pR, gZ_pR, tl_pR, gI_wI, gJ_wI, gR_wI, aI_wI, aJ_wI, aG_wI, gN_wI, gF_wI, gM_wI, gZ_wI, tl_wI, gI_wJ, gJ_wJ, gR_wJ, aI_wJ, aJ_wJ, aG_wJ, gN_wJ, gF_wJ, gM_wJ, gZ_wJ, tl_wJ, gI_wG, gJ_wG, gR_wG, aI_wG, aJ_wG, aG_wG, gN_wG, gF_wG, gM_wG, gZ_wG, tl_wG, gS_pI, gS_pJ, gS_pR, gS_wI, gS_wJ, gS_wG, fr_25_0, fr_26_0, fr_26_1, fr_26_2, fr_26_3, fr_26_4, fr_26_5, fr_26_6, fr_26_7, fr_26_8, fr_36_6, fr_36_7, fr_36_8, fr_36_9, fr_36_10, fr_36_11, fr_36_12, fr_36_13, fr_36_14, fr_46_0, fr_46_1, fr_1_0, fr_1_4, fr_1_5, fr_1_6, fr_1_7, fr_1_8, fr_1_9, fr_b_10, fr_b_11, fr_b_12, fr_b_13, fr_b_14, fr_b_15, fr_b_16, fr_b_17, fr_b_18, fr_b_19, fin_pI, fin_pJ, fin_wI, fin_wJ, fin_wG, sh_b_1, lt_b_1, sh_b_2, lt_b_2, sh_b_3, lt_b_3, sh_b_4, lt_b_4, sh_b_5, lt_b_5, sh_b_6, lt_b_6, sh_b_7, lt_b_7, sh_b_8, lt_b_8, sh_b_9, lt_b_9, sh_b_10, lt_b_10, sh_b, lt_b, nz_b, finN, sh_1, sh_2, sh_25, sh_26, sh_27, sh_28, sh_29, sh_30, sh_31, sh_32, sh_33, sh_34, sh_35, sh_36, sh_37, sh_38, sh_39, sh_40, sh_41, sh_42, sh_43, sh_44, sh_45, sh_46, sh_47, sh_48, sh_49, sh_50, mul_nI_2, mul_nI_3, mul_nI_4, mul_nI_6, mul_nI_8, mul_nI_10, mul_nI_11, mul_nI_12, mul_nI_27, mul_nI_36, mul_nI_242, add_nI_0, dda_nI_0, add_nI_1, dda_nI_1, add_nI_2, dda_nI_2, add_nI_3, dda_nI_3, add_nI_4, dda_nI_4, add_nI_5, dda_nI_5, add_nI_6, dda_nI_6, add_nI_8, dda_nI_8, add_nI_12, dda_nI_12, add_nI_64, dda_nI_64, add_nI_128, dda_nI_128, add_nI_192, dda_nI_192, add_nI_228, dda_nI_228, add_nI_234, dda_nI_234, add_nI_242, dda_nI_242, sub_nI_1, sub_nI_2, sub_nI_20, sub_nI_242, inb_0, ixl_0, inb_1, ixl_1, inb_2, ixl_2, inb_3, ixl_3, inb_4, ixl_4, inb_5, ixl_5, inb_6, ixl_6, inb_7, ixl_7, inb_8, ixl_8, inb_9, ixl_9, inb_10, ixl_10, inb_11, ixl_11, nI_add, pk_mul, ixn, inbn, le_l0, l0_le, lt_l0, l0_lt, eq_l0, l0_eq, le_l1, l1_le, lt_l1, l1_lt, eq_l1, l1_eq, le_l2, l2_le, lt_l2, l2_lt, eq_l2, l2_eq, le_l3, l3_le, lt_l3, l3_lt, eq_l3, l3_eq, le_l4, l4_le, lt_l4, l4_lt, eq_l4, l4_eq, le_l5, l5_le, lt_l5, l5_lt, eq_l5, l5_eq, le_l6, l6_le, lt_l6, l6_lt, eq_l6, l6_eq, le_l8, l8_le, lt_l8, l8_lt, eq_l8, l8_eq, le_l9, l9_le, lt_l9, l9_lt, eq_l9, l9_eq, le_l10, l10_le, lt_l10, l10_lt, eq_l10, l10_eq, le_l11, l11_le, lt_l11, l11_lt, eq_l11, l11_eq, le_l12, l12_le, lt_l12, l12_lt, eq_l12, l12_eq, le_l14, l14_le, lt_l14, l14_lt, eq_l14, l14_eq, le_l16, l16_le, lt_l16, l16_lt, eq_l16, l16_eq, le_l20, l20_le, lt_l20, l20_lt, eq_l20, l20_eq, le_l24, l24_le, lt_l24, l24_lt, eq_l24, l24_eq, le_l64, l64_le, lt_l64, l64_lt, eq_l64, l64_eq, le_l72, l72_le, lt_l72, l72_lt, eq_l72, l72_eq, le_l242, l242_le, lt_l242, l242_lt, eq_l242, l242_eq, le_l1180, l1180_le, lt_l1180, l1180_lt, eq_l1180, l1180_eq, le_l1200, l1200_le, lt_l1200, l1200_lt, eq_l1200, l1200_eq, le_l3388, l3388_le, lt_l3388, l3388_lt, eq_l3388, l3388_eq, le_l200000, l200000_le, lt_l200000, l200000_lt, eq_l200000, l200000_eq, le_l1000000, l1000000_le, lt_l1000000, l1000000_lt, eq_l1000000, l1000000_eq, le_nI, lt_nI, eq_nI, show i < 8 by omega, show ¬ n ≤ i by omega, e40, hg]
    rw [e]
    refine ih (i + 1) m _ (by omega) (by omega) (by omega) (hfr.wI 45 i _ rfl) (fun k a b => ?_)
    by_cases hk : k = i
    · subst hk; simp [gI_pI, gJ_pI, gR_pI, aI_pI, aJ_pI, aG_pI, gN_pI, gF_pI, gM_pI, gZ_pI, tl_pI, gI_pJ, gJ_pJ, gR_pJ, aI_pJ, aJ_pJ, aG_pJ, gN_pJ, gF_pJ, gM_pJ, gZ_pJ, tl_pJ, gI_pR, gJ_pR, gR_pR, aI_pR, aJ_pR, aG_pR, gN_pR, gF_pR, gM_pR, gZ_pR, tl_pR, gI_wI, gJ_wI, gR_wI, aI_wI, aJ_wI, aG_wI, gN_wI, gF_wI, gM_wI, gZ_wI, tl_wI, gI_wJ, gJ_wJ, gR_wJ, aI_wJ, aJ_wJ, aG_wJ, gN_wJ, gF_wJ, gM_wJ, gZ_wJ, tl_wJ, gI_wG, gJ_wG, gR_wG, aI_wG, aJ_wG, aG_wG, gN_wG, gF_wG, gM_wG, gZ_wG, tl_wG, gS_pI, gS_pJ, gS_pR, gS_wI, gS_wJ, gS_wG, fr_25_0, fr_26_0, fr_26_1, fr_26_2, fr_26_3, fr_26_4, fr_26_5, fr_26_6, fr_26_7, fr_26_8, fr_36_6, fr_36_7, fr_36_8, fr_36_9, fr_36_10, fr_36_11, fr_36_12, fr_36_13, fr_36_14, fr_46_0, fr_46_1, fr_1_0, fr_1_4, fr_1_5, fr_1_6, fr_1_7, fr_1_8, fr_1_9, fr_b_10, fr_b_11, fr_b_12, fr_b_13, fr_b_14, fr_b_15, fr_b_16, fr_b_17, fr_b_18, fr_b_19, fin_pI, fin_pJ, fin_wI, fin_wJ, fin_wG, sh_b_1, lt_b_1, sh_b_2, lt_b_2, sh_b_3, lt_b_3, sh_b_4, lt_b_4, sh_b_5, lt_b_5, sh_b_6, lt_b_6, sh_b_7, lt_b_7, sh_b_8, lt_b_8, sh_b_9, lt_b_9, sh_b_10, lt_b_10, sh_b, lt_b, nz_b, finN]
    · simp [gI_pI, gJ_pI, gR_pI, aI_pI, aJ_pI, aG_pI, gN_pI, gF_pI, gM_pI, gZ_pI, tl_pI, gI_pJ, gJ_pJ, gR_pJ, aI_pJ, aJ_pJ, aG_pJ, gN_pJ, gF_pJ, gM_pJ, gZ_pJ, tl_pJ, gI_pR, gJ_pR, gR_pR, aI_pR, aJ_pR, aG_pR, gN_pR, gF_pR, gM_pR, gZ_pR, tl_pR, gI_wI, gJ_wI, gR_wI, aI_wI, aJ_wI, aG_wI, gN_wI, gF_wI, gM_wI, gZ_wI, tl_wI, gI_wJ, gJ_wJ, gR_wJ, aI_wJ, aJ_wJ, aG_wJ, gN_wJ, gF_wJ, gM_wJ, gZ_wJ, tl_wJ, gI_wG, gJ_wG, gR_wG, aI_wG, aJ_wG, aG_wG, gN_wG, gF_wG, gM_wG, gZ_wG, tl_wG, gS_pI, gS_pJ, gS_pR, gS_wI, gS_wJ, gS_wG, fr_25_0, fr_26_0, fr_26_1, fr_26_2, fr_26_3, fr_26_4, fr_26_5, fr_26_6, fr_26_7, fr_26_8, fr_36_6, fr_36_7, fr_36_8, fr_36_9, fr_36_10, fr_36_11, fr_36_12, fr_36_13, fr_36_14, fr_46_0, fr_46_1, fr_1_0, fr_1_4, fr_1_5, fr_1_6, fr_1_7, fr_1_8, fr_1_9, fr_b_10, fr_b_11, fr_b_12, fr_b_13, fr_b_14, fr_b_15, fr_b_16, fr_b_17, fr_b_18, fr_b_19, fin_pI, fin_pJ, fin_wI, fin_wJ, fin_wG, sh_b_1, lt_b_1, sh_b_2, lt_b_2, sh_b_3, lt_b_3, sh_b_4, lt_b_4, sh_b_5, lt_b_5, sh_b_6, lt_b_6, sh_b_7, lt_b_7, sh_b_8, lt_b_8, sh_b_9, lt_b_9, sh_b_10, lt_b_10, sh_b, lt_b, nz_b, finN, hk, h1 k a (by omega)]
theorem StC.fr {σ τ : Sg} {n fl : Nat} {bv : Nat → Int32} {wh : Nat → Int} {l : List (Nat × Nat)} {m : List Nat} (h : StC σ n fl bv wh) (hf : Fr (fF l) (fA m) σ τ) (h1 : fA m 40 = false) (h2 : fA m 43 = false) (h3 : fA m 44 = false) : StC τ n fl bv wh :=
  fun k a b => ⟨(hf.aI 40 h1 k).trans (h k a b).1, by rw [hf.aI 43 h2 k]; exact (h k a b).2.1, (hf.aJ 44 h3 k).trans (h k a b).2.2.1, (h k a b).2.2.2⟩
/-- the pool is parted by the factors among those whose part is g -/
theorem s_among {σ : Sg} {n fl : Nat} {bv : Nat → Int32} {wh : Nat → Int} (g : Int32) (hC : ShC σ n fl) (hL : Lim σ n fl) (hs : StC σ n fl bv wh) :
    Ok (DX5_partAmong 36 g σ) (fun _ υ => Fr (fF [(36, 15)]) (fA [43, 44, 45]) σ υ ∧ FiS υ n fl bv wh (ptA bv g (spl σ) (sfc σ)) (FG (sfc σ) bv g fl n) ∧
      (∀ k, k < fl → aI υ 43 k = aI σ 43 k) ∧ spl υ = spl σ - sI (fun k => ptA bv g (spl σ) (sfc σ) k / FG (sfc σ) bv g fl n) fl (n - fl)) := by
  have h' := hC
  obtain ⟨hF, h2, h3, h4, h5⟩ := h'
  obtain ⟨υ, e1, e2, e3⟩ := s_among5 g hC (n - fl) fl FU σ (by omega) (by unfold FU; omega) (Nat.le_refl _) Fr.rf (fun k a b => by omega)
  have hCu := hC.fr e2 (by decide) rfl rfl
  have ej : aJ υ 42 = aJ σ 42 := funext fun k => e2.aJ 42 rfl k
  have ep : spl υ = spl σ := by show (gJ υ 36 15).toInt = _; rw [e2.J 36 15 rfl]
  have := s_part (a := 42) (B := fun k => decide (bv k = g)) hCu rfl (by decide) (by decide) (fun k k1 k2 => by rw [ej]; have := hL.1 k k1 k2; omega) (by rw [ep]; exact hL.2) (hs.fr e2 rfl rfl rfl)
    (fun k k1 k2 => by
      rw [e3 k k1 k2, (hs k k1 k2).1]
      by_cases hg : bv k = g <;> simp [hg])
  rw [ej, ep] at this
  have c1 : ptB (fun k => decide (bv k = g)) (fun k => (aJ σ 42 k).toInt) (spl σ) = ptA bv g (spl σ) (sfc σ) := by
    funext k
    simp [ptB, ptA]
  have c2 : unB (fun k => decide (bv k = g)) (fun k => (aJ σ 42 k).toInt) fl n = FG (sfc σ) bv g fl n := by
    unfold unB FG
    congr 1
    funext k
    simp [opG]
  rw [c1, c2] at this
  unfold DX5_partAmong
  obtain ⟨hF', -⟩ := hCu
  refine ok_chk.mpr ⟨by simp (disch := first | assumption | omega) [ckO, ckI, ckZ, ckJ, ckG, ckR, ckL, ckV, gI_pI, gJ_pI, gR_pI, aI_pI, aJ_pI, aG_pI, gN_pI, gF_pI, gM_pI, gZ_pI, tl_pI, gI_pJ, gJ_pJ, gR_pJ, aI_pJ, aJ_pJ, aG_pJ, gN_pJ, gF_pJ, gM_pJ, gZ_pJ, tl_pJ, gI_pR, gJ_pR, gR_pR, aI_pR, aJ_pR, aG_pR, gN_pR, gF_pR, gM_pR, gZ_pR, tl_pR, gI_wI, gJ_wI, gR_wI, aI_wI, aJ_wI, aG_wI, gN_wI, gF_wI, gM_wI, gZ_wI, tl_wI, gI_wJ, gJ_wJ, gR_wJ, aI_wJ, aJ_wJ, aG_wJ, gN_wJ, gF_wJ, gM_wJ, gZ_wJ, tl_wJ, gI_wG, gJ_wG, gR_wG, aI_wG, aJ_wG, aG_wG, gN_wG, gF_wG, gM_wG, gZ_wG, tl_wG, gS_pI, gS_pJ, gS_pR, gS_wI, gS_wJ, gS_wG, fr_25_0, fr_26_0, fr_26_1, fr_26_2, fr_26_3, fr_26_4, fr_26_5, fr_26_6, fr_26_7, fr_26_8, fr_36_6, fr_36_7, fr_36_8, fr_36_9, fr_36_10, fr_36_11, fr_36_12, fr_36_13, fr_36_14, fr_46_0, fr_46_1, fr_1_0, fr_1_4, fr_1_5, fr_1_6, fr_1_7, fr_1_8, fr_1_9, fr_b_10, fr_b_11, fr_b_12, fr_b_13, fr_b_14, fr_b_15, fr_b_16, fr_b_17, fr_b_18, fr_b_19, fin_pI, fin_pJ, fin_wI, fin_wJ, fin_wG, sh_b_1, lt_b_1, sh_b_2, lt_b_2, sh_b_3, lt_b_3, sh_b_4, lt_b_4, sh_b_5, lt_b_5, sh_b_6, lt_b_6, sh_b_7, lt_b_7, sh_b_8, lt_b_8, sh_b_9, lt_b_9, sh_b_10, lt_b_10, sh_b, lt_b, nz_b, finN, sh_1, sh_2, sh_25, sh_26, sh_27, sh_28, sh_29, sh_30, sh_31, sh_32, sh_33, sh_34, sh_35, sh_36, sh_37, sh_38, sh_39, sh_40, sh_41, sh_42, sh_43, sh_44, sh_45, sh_46, sh_47, sh_48, sh_49, sh_50, mul_nI_2, mul_nI_3, mul_nI_4, mul_nI_6, mul_nI_8, mul_nI_10, mul_nI_11, mul_nI_12, mul_nI_27, mul_nI_36, mul_nI_242, add_nI_0, dda_nI_0, add_nI_1, dda_nI_1, add_nI_2, dda_nI_2, add_nI_3, dda_nI_3, add_nI_4, dda_nI_4, add_nI_5, dda_nI_5, add_nI_6, dda_nI_6, add_nI_8, dda_nI_8, add_nI_12, dda_nI_12, add_nI_64, dda_nI_64, add_nI_128, dda_nI_128, add_nI_192, dda_nI_192, add_nI_228, dda_nI_228, add_nI_234, dda_nI_234, add_nI_242, dda_nI_242, sub_nI_1, sub_nI_2, sub_nI_20, sub_nI_242, inb_0, ixl_0, inb_1, ixl_1, inb_2, ixl_2, inb_3, ixl_3, inb_4, ixl_4, inb_5, ixl_5, inb_6, ixl_6, inb_7, ixl_7, inb_8, ixl_8, inb_9, ixl_9, inb_10, ixl_10, inb_11, ixl_11, nI_add, pk_mul, ixn, inbn, le_l0, l0_le, lt_l0, l0_lt, eq_l0, l0_eq, le_l1, l1_le, lt_l1, l1_lt, eq_l1, l1_eq, le_l2, l2_le, lt_l2, l2_lt, eq_l2, l2_eq, le_l3, l3_le, lt_l3, l3_lt, eq_l3, l3_eq, le_l4, l4_le, lt_l4, l4_lt, eq_l4, l4_eq, le_l5, l5_le, lt_l5, l5_lt, eq_l5, l5_eq, le_l6, l6_le, lt_l6, l6_lt, eq_l6, l6_eq, le_l8, l8_le, lt_l8, l8_lt, eq_l8, l8_eq, le_l9, l9_le, lt_l9, l9_lt, eq_l9, l9_eq, le_l10, l10_le, lt_l10, l10_lt, eq_l10, l10_eq, le_l11, l11_le, lt_l11, l11_lt, eq_l11, l11_eq, le_l12, l12_le, lt_l12, l12_lt, eq_l12, l12_eq, le_l14, l14_le, lt_l14, l14_lt, eq_l14, l14_eq, le_l16, l16_le, lt_l16, l16_lt, eq_l16, l16_eq, le_l20, l20_le, lt_l20, l20_lt, eq_l20, l20_eq, le_l24, l24_le, lt_l24, l24_lt, eq_l24, l24_eq, le_l64, l64_le, lt_l64, l64_lt, eq_l64, l64_eq, le_l72, l72_le, lt_l72, l72_lt, eq_l72, l72_eq, le_l242, l242_le, lt_l242, l242_lt, eq_l242, l242_eq, le_l1180, l1180_le, lt_l1180, l1180_lt, eq_l1180, l1180_eq, le_l1200, l1200_le, lt_l1200, l1200_lt, eq_l1200, l1200_eq, le_l3388, l3388_le, lt_l3388, l3388_lt, eq_l3388, l3388_eq, le_l200000, l200000_le, lt_l200000, l200000_lt, eq_l200000, l200000_eq, le_l1000000, l1000000_le, lt_l1000000, l1000000_lt, eq_l1000000, l1000000_eq, le_nI, lt_nI, eq_nI], ?_⟩
  rw [h3, e1]
  unfold DX5_partAmong_40
  simp (disch := first | assumption | omega) only [ok_chk, ckO, ckI, ckZ, ckJ, ckG, ckR, ckL, ckV, gI_pI, gJ_pI, gR_pI, aI_pI, aJ_pI, aG_pI, gN_pI, gF_pI, gM_pI, gZ_pI, tl_pI, gI_pJ, gJ_pJ, gR_pJ, aI_pJ, aJ_pJ, aG_pJ, gN_pJ, gF_pJ, gM_pJ, gZ_pJ, tl_pJ, gI_pR, gJ_pR, gR_pR, aI_pR, aJ_pR, aG_pR, gN_pR, gF_pR, gM_pR, gZ_pR, tl_pR, gI_wI, gJ_wI, gR_wI, aI_wI, aJ_wI, aG_wI, gN_wI, gF_wI, gM_wI, gZ_wI, tl_wI, gI_wJ, gJ_wJ, gR_wJ, aI_wJ, aJ_wJ, aG_wJ, gN_wJ, gF_wJ, gM_wJ, gZ_wJ, tl_wJ, gI_wG, gJ_wG, gR_wG, aI_wG, aJ_wG, aG_wG, gN_wG, gF_wG, gM_wG, gZ_wG, tl_wG, gS_pI, gS_pJ, gS_pR, gS_wI, gS_wJ, gS_wG, fr_25_0, fr_26_0, fr_26_1, fr_26_2, fr_26_3, fr_26_4, fr_26_5, fr_26_6, fr_26_7, fr_26_8, fr_36_6, fr_36_7, fr_36_8, fr_36_9, fr_36_10, fr_36_11, fr_36_12, fr_36_13, fr_36_14, fr_46_0, fr_46_1, fr_1_0, fr_1_4, fr_1_5, fr_1_6, fr_1_7, fr_1_8, fr_1_9, fr_b_10, fr_b_11, fr_b_12, fr_b_13, fr_b_14, fr_b_15, fr_b_16, fr_b_17, fr_b_18, fr_b_19, fin_pI, fin_pJ, fin_wI, fin_wJ, fin_wG, sh_b_1, lt_b_1, sh_b_2, lt_b_2, sh_b_3, lt_b_3, sh_b_4, lt_b_4, sh_b_5, lt_b_5, sh_b_6, lt_b_6, sh_b_7, lt_b_7, sh_b_8, lt_b_8, sh_b_9, lt_b_9, sh_b_10, lt_b_10, sh_b, lt_b, nz_b, finN, sh_1, sh_2, sh_25, sh_26, sh_27, sh_28, sh_29, sh_30, sh_31, sh_32, sh_33, sh_34, sh_35, sh_36, sh_37, sh_38, sh_39, sh_40, sh_41, sh_42, sh_43, sh_44, sh_45, sh_46, sh_47, sh_48, sh_49, sh_50, mul_nI_2, mul_nI_3, mul_nI_4, mul_nI_6, mul_nI_8, mul_nI_10, mul_nI_11, mul_nI_12, mul_nI_27, mul_nI_36, mul_nI_242, add_nI_0, dda_nI_0, add_nI_1, dda_nI_1, add_nI_2, dda_nI_2, add_nI_3, dda_nI_3, add_nI_4, dda_nI_4, add_nI_5, dda_nI_5, add_nI_6, dda_nI_6, add_nI_8, dda_nI_8, add_nI_12, dda_nI_12, add_nI_64, dda_nI_64, add_nI_128, dda_nI_128, add_nI_192, dda_nI_192, add_nI_228, dda_nI_228, add_nI_234, dda_nI_234, add_nI_242, dda_nI_242, sub_nI_1, sub_nI_2, sub_nI_20, sub_nI_242, inb_0, ixl_0, inb_1, ixl_1, inb_2, ixl_2, inb_3, ixl_3, inb_4, ixl_4, inb_5, ixl_5, inb_6, ixl_6, inb_7, ixl_7, inb_8, ixl_8, inb_9, ixl_9, inb_10, ixl_10, inb_11, ixl_11, nI_add, pk_mul, ixn, inbn, le_l0, l0_le, lt_l0, l0_lt, eq_l0, l0_eq, le_l1, l1_le, lt_l1, l1_lt, eq_l1, l1_eq, le_l2, l2_le, lt_l2, l2_lt, eq_l2, l2_eq, le_l3, l3_le, lt_l3, l3_lt, eq_l3, l3_eq, le_l4, l4_le, lt_l4, l4_lt, eq_l4, l4_eq, le_l5, l5_le, lt_l5, l5_lt, eq_l5, l5_eq, le_l6, l6_le, lt_l6, l6_lt, eq_l6, l6_eq, le_l8, l8_le, lt_l8, l8_lt, eq_l8, l8_eq, le_l9, l9_le, lt_l9, l9_lt, eq_l9, l9_eq, le_l10, l10_le, lt_l10, l10_lt, eq_l10, l10_eq, le_l11, l11_le, lt_l11, l11_lt, eq_l11, l11_eq, le_l12, l12_le, lt_l12, l12_lt, eq_l12, l12_eq, le_l14, l14_le, lt_l14, l14_lt, eq_l14, l14_eq, le_l16, l16_le, lt_l16, l16_lt, eq_l16, l16_eq, le_l20, l20_le, lt_l20, l20_lt, eq_l20, l20_eq, le_l24, l24_le, lt_l24, l24_lt, eq_l24, l24_eq, le_l64, l64_le, lt_l64, l64_lt, eq_l64, l64_eq, le_l72, l72_le, lt_l72, l72_lt, eq_l72, l72_eq, le_l242, l242_le, lt_l242, l242_lt, eq_l242, l242_eq, le_l1180, l1180_le, lt_l1180, l1180_lt, eq_l1180, l1180_eq, le_l1200, l1200_le, lt_l1200, l1200_lt, eq_l1200, l1200_eq, le_l3388, l3388_le, lt_l3388, l3388_lt, eq_l3388, l3388_eq, le_l200000, l200000_le, lt_l200000, l200000_lt, eq_l200000, l200000_eq, le_l1000000, l1000000_le, lt_l1000000, l1000000_lt, eq_l1000000, l1000000_eq, le_nI, lt_nI, eq_nI, decide_true, decide_eq_true_eq, Bool.and_true, Bool.true_and, and_true, true_and, if_true, if_false, ite_true, ite_false, decide_false, ne_eq, not_false_eq_true, not_true_eq_false, reduceCtorEq, Nat.reduceLT, Nat.reduceEqDiff, Nat.reduceMul, Nat.reduceAdd]
  exact ok_bnd this (fun _ τ hq => ok_some.mpr ⟨(e2.up rfl rfl).trans (hq.1.up rfl rfl), hq.2.1, fun k a => (hq.2.2.1 k a).trans (e2.aI 43 rfl k), hq.2.2.2⟩)

theorem nI_i {n : Nat} (h : n < 2147483648) : (nI n).toInt = n := Int32.toInt_ofNat_of_lt h
theorem nI_neg {n : Nat} (h : n < 2147483648) : ¬ nI n = -1 := by
  intro z
  have := congrArg Int32.toInt z
  rw [nI_i h] at this
  have e : (-1 : Int32).toInt = -1 := by decide
  rw [e] at this
  omega
/-! the cents left, by rank -/
def bt (r : Nat → Int) (o k : Nat) : Bool := decide (r k < r o) || (decide (r o = r k) && decide (o < k))
def rk (r : Nat → Int) (fl n k : Nat) : Nat := cN (fun o => bt r o k) fl (n - fl)
theorem bt_iff {r : Nat → Int} {o k : Nat} : bt r o k = true ↔ (r k < r o ∨ (r o = r k ∧ o < k)) := by simp [bt]
theorem bt_tot {r : Nat → Int} {o k : Nat} (h : o ≠ k) : bt r o k = true ∨ bt r k o = true := by
  rw [bt_iff, bt_iff]
  omega
theorem bt_asym {r : Nat → Int} {o k : Nat} (h : bt r o k = true) : bt r k o = false := by
  cases hk : bt r k o with
  | false => rfl
  | true =>
    rw [bt_iff] at h hk
    omega
theorem bt_trans {r : Nat → Int} {a b c : Nat} (h : bt r a b = true) (k : bt r b c = true) : bt r a c = true := by
  rw [bt_iff] at *
  omega
theorem rk_congr {r r' : Nat → Int} {fl n : Nat} (h : ∀ k, fl ≤ k → k < n → r k = r' k) {k : Nat} (a : fl ≤ k) (b : k < n) : rk r fl n k = rk r' fl n k := by
  refine cN_congr _ _ (fun o c d => ?_)
  unfold bt
  rw [h k a b, h o c (by omega)]
/-- G: those that have theirs, j of them, the foremost -/
def GvI (r : Nat → Int) (fl n : Nat) (G : Nat → Bool) (j : Nat) : Prop := cN G fl (n - fl) = j ∧ ∀ o k, fl ≤ o → o < n → fl ≤ k → k < n → bt r o k = true → G k = true → G o = true
theorem gv_rk {r : Nat → Int} {fl n : Nat} {G : Nat → Bool} {j k : Nat} (h : GvI r fl n G j) (a : fl ≤ k) (b : k < n) : G k = decide (rk r fl n k < j) := by
  cases hg : G k with
  | true =>
    have : rk r fl n k < cN G fl (n - fl) := cN_lt _ _ (fun o c d e => h.2 o k c (by omega) a b e hg) ⟨k, a, by omega, hg, by cases hb : bt r k k with | false => rfl | true => rw [bt_iff] at hb; omega⟩
    simp
    rw [h.1] at this
    exact this
  | false =>
    have : cN G fl (n - fl) ≤ rk r fl n k := cN_mono _ _ (fun o c d e => by
      rcases bt_tot (r := r) (o := o) (k := k) (fun z => by rw [z, hg] at e; cases e) with q | q
      · exact q
      · have := h.2 k o a b c (by omega) q e
        rw [hg] at this
        cases this)
    simp
    rw [h.1] at this
    exact this
theorem gv_step {r : Nat → Int} {fl n : Nat} {G : Nat → Bool} {j i : Nat} (h : GvI r fl n G j) (a : fl ≤ i) (b : i < n) (hi : G i = false) (hm : ∀ k, fl ≤ k → k < n → G k = false → k = i ∨ bt r i k = true) : GvI r fl n (fun k => G k || decide (k = i)) (j + 1) := by
  refine ⟨?_, fun o k c d e f hb hg => ?_⟩
  · have e1 : n - fl = (i - fl) + (1 + (n - i - 1)) := by omega
    have sp : ∀ (p : Nat → Bool) (d e s : Nat), cN p s (d + e) = cN p s d + cN p (s + d) e := by
      intro p d
      induction d with
      | zero => intro e s; simp [cN]
      | succ d ih =>
        intro e s
        rw [show d + 1 + e = d + e + 1 by omega, show cN p s (d + e + 1) = (if p s then 1 else 0) + cN p (s + 1) (d + e) from rfl, ih e (s + 1), show cN p s (d + 1) = (if p s then 1 else 0) + cN p (s + 1) d from rfl, show s + 1 + d = s + (d + 1) by omega]
        omega
    have h1 := h.1
    rw [e1, sp, sp] at h1
    rw [e1, sp, sp, cN_congr (q := G) (i - fl) fl (fun k c d => by simp; omega), cN_congr (q := G) (n - i - 1) (fl + (i - fl) + 1) (fun k c d => by simp; omega)]
    rw [show fl + (i - fl) = i by omega] at h1 ⊢
    have e2 : cN G i 1 = 0 := by simp [cN, hi]
    have e3 : cN (fun k => G k || decide (k = i)) i 1 = 1 := by simp [cN]
    rw [e2] at h1
    rw [e3]
    omega
  · simp only [Bool.or_eq_true, decide_eq_true_eq] at hg ⊢
    rcases hg with hg | hg
    · exact Or.inl (h.2 o k c d e f hb hg)
    · subst hg
      cases ho : G o with
      | true => exact Or.inl rfl
      | false =>
        rcases hm o c d ho with q | q
        · exact Or.inr q
        · rw [bt_asym hb] at q
          cases q
theorem gv_zero {r : Nat → Int} {fl n : Nat} : GvI r fl n (fun _ => false) 0 := by
  refine ⟨?_, fun o k _ _ _ _ _ h => by cases h⟩
  have := cN_le (p := fun _ => false) (n - fl) fl
  suffices ∀ d i, cN (fun _ => false) i d = 0 from this _ _
  intro d
  induction d with
  | zero => intro i; rfl
  | succ d ih => intro i; unfold cN; rw [ih]; rfl
theorem cN_full {p : Nat → Bool} : ∀ (d i : Nat), (∀ k, i ≤ k → k < i + d → p k = true) → cN p i d = d
  | 0, _, _ => rfl
  | d + 1, i, h => by
    unfold cN
    rw [h i (Nat.le_refl _) (by omega), cN_full d (i + 1) (fun k a b => h k (by omega) (by omega))]
    simp
    omega
theorem rk_lt {r : Nat → Int} {fl n k : Nat} (a : fl ≤ k) (b : k < n) : rk r fl n k < n - fl := by
  have : rk r fl n k < cN (fun _ => true) fl (n - fl) := cN_lt _ _ (fun _ _ _ _ => rfl) ⟨k, a, by omega, rfl, by cases hb : bt r k k with | false => rfl | true => rw [bt_iff] at hb; omega⟩
  have h2 := cN_le (p := fun _ => true) (n - fl) fl
  omega
/-- the rests, those given out -1 -/
def RsC (σ : Sg) (n fl : Nat) (r : Nat → Int) (G : Nat → Bool) : Prop := ∀ k, fl ≤ k → k < n → 0 ≤ r k ∧ (aJ σ 44 k).toInt = if G k then -1 else r k
theorem s_gr7 {σ : Sg} {n fl : Nat} {r : Nat → Int} {G : Nat → Bool} (hC : ShC σ n fl) (hR : RsC σ n fl r G) : ∀ (d i m : Nat) (b : Int32), i + d = n → d < m → fl ≤ i →
    ((b = -1 ∧ ∀ k, fl ≤ k → k < i → G k = true) ∨ (∃ j, b = nI j ∧ fl ≤ j ∧ j < i ∧ G j = false ∧ ∀ k, fl ≤ k → k < i → G k = false → k = j ∨ bt r j k = true)) →
    ∃ b', DX5_greatestRest_7 m 36 b (nI i) σ = some (b', σ) ∧ ((b' = -1 ∧ ∀ k, fl ≤ k → k < n → G k = true) ∨ (∃ j, b' = nI j ∧ fl ≤ j ∧ j < n ∧ G j = false ∧ ∀ k, fl ≤ k → k < n → G k = false → k = j ∨ bt r j k = true)) := by
  obtain ⟨hF, h2, h3, h4, h5⟩ := hC
  intro d
  induction d with
  | zero =>
    intro i m b hi hm hfi hb
    obtain ⟨m, rfl⟩ : ∃ k, m = k + 1 := ⟨m - 1, by omega⟩
    refine ⟨b, ?_, by rw [show n = i by omega]; exact hb⟩
    rw [DX5_greatestRest_7, DX5_greatestRest_55]
    simp (disch := first | assumption | omega) [ckO, ckI, ckZ, ckJ, ckG, ckR, ckL, ckV, chk_true, h2, gI_pI, gJ_pI, gR_pI, aI_pI, aJ_pI, aG_pI, gN_pI, gF_pI, gM_pI, gZ_pI, tl_pI, gI_pJ, gJ_pJ, gR_pJ, aI_pJ, aJ_pJ, aG_pJ, gN_pJ, gF_pJ, gM_pJ, gZ_pJ, tl_pJ, gI_pR, gJ_pR, gR_pR, aI_pR, aJ_pR, aG_pR, gN_pR, gF_pR, gM_pR, gZ_pR, tl_pR, gI_wI, gJ_wI, gR_wI, aI_wI, aJ_wI, aG_wI, gN_wI, gF_wI, gM_wI, gZ_wI, tl_wI, gI_wJ, gJ_wJ, gR_wJ, aI_wJ, aJ_wJ, aG_wJ, gN_wJ, gF_wJ, gM_wJ, gZ_wJ, tl_wJ, gI_wG, gJ_wG, gR_wG, aI_wG, aJ_wG, aG_wG, gN_wG, gF_wG, gM_wG, gZ_wG, tl_wG, gS_pI, gS_pJ, gS_pR, gS_wI, gS_wJ, gS_wG, fr_25_0, fr_26_0, fr_26_1, fr_26_2, fr_26_3, fr_26_4, fr_26_5, fr_26_6, fr_26_7, fr_26_8, fr_36_6, fr_36_7, fr_36_8, fr_36_9, fr_36_10, fr_36_11, fr_36_12, fr_36_13, fr_36_14, fr_46_0, fr_46_1, fr_1_0, fr_1_4, fr_1_5, fr_1_6, fr_1_7, fr_1_8, fr_1_9, fr_b_10, fr_b_11, fr_b_12, fr_b_13, fr_b_14, fr_b_15, fr_b_16, fr_b_17, fr_b_18, fr_b_19, fin_pI, fin_pJ, fin_wI, fin_wJ, fin_wG, sh_b_1, lt_b_1, sh_b_2, lt_b_2, sh_b_3, lt_b_3, sh_b_4, lt_b_4, sh_b_5, lt_b_5, sh_b_6, lt_b_6, sh_b_7, lt_b_7, sh_b_8, lt_b_8, sh_b_9, lt_b_9, sh_b_10, lt_b_10, sh_b, lt_b, nz_b, finN, sh_1, sh_2, sh_25, sh_26, sh_27, sh_28, sh_29, sh_30, sh_31, sh_32, sh_33, sh_34, sh_35, sh_36, sh_37, sh_38, sh_39, sh_40, sh_41, sh_42, sh_43, sh_44, sh_45, sh_46, sh_47, sh_48, sh_49, sh_50, mul_nI_2, mul_nI_3, mul_nI_4, mul_nI_6, mul_nI_8, mul_nI_10, mul_nI_11, mul_nI_12, mul_nI_27, mul_nI_36, mul_nI_242, add_nI_0, dda_nI_0, add_nI_1, dda_nI_1, add_nI_2, dda_nI_2, add_nI_3, dda_nI_3, add_nI_4, dda_nI_4, add_nI_5, dda_nI_5, add_nI_6, dda_nI_6, add_nI_8, dda_nI_8, add_nI_12, dda_nI_12, add_nI_64, dda_nI_64, add_nI_128, dda_nI_128, add_nI_192, dda_nI_192, add_nI_228, dda_nI_228, add_nI_234, dda_nI_234, add_nI_242, dda_nI_242, sub_nI_1, sub_nI_2, sub_nI_20, sub_nI_242, inb_0, ixl_0, inb_1, ixl_1, inb_2, ixl_2, inb_3, ixl_3, inb_4, ixl_4, inb_5, ixl_5, inb_6, ixl_6, inb_7, ixl_7, inb_8, ixl_8, inb_9, ixl_9, inb_10, ixl_10, inb_11, ixl_11, nI_add, pk_mul, ixn, inbn, le_l0, l0_le, lt_l0, l0_lt, eq_l0, l0_eq, le_l1, l1_le, lt_l1, l1_lt, eq_l1, l1_eq, le_l2, l2_le, lt_l2, l2_lt, eq_l2, l2_eq, le_l3, l3_le, lt_l3, l3_lt, eq_l3, l3_eq, le_l4, l4_le, lt_l4, l4_lt, eq_l4, l4_eq, le_l5, l5_le, lt_l5, l5_lt, eq_l5, l5_eq, le_l6, l6_le, lt_l6, l6_lt, eq_l6, l6_eq, le_l8, l8_le, lt_l8, l8_lt, eq_l8, l8_eq, le_l9, l9_le, lt_l9, l9_lt, eq_l9, l9_eq, le_l10, l10_le, lt_l10, l10_lt, eq_l10, l10_eq, le_l11, l11_le, lt_l11, l11_lt, eq_l11, l11_eq, le_l12, l12_le, lt_l12, l12_lt, eq_l12, l12_eq, le_l14, l14_le, lt_l14, l14_lt, eq_l14, l14_eq, le_l16, l16_le, lt_l16, l16_lt, eq_l16, l16_eq, le_l20, l20_le, lt_l20, l20_lt, eq_l20, l20_eq, le_l24, l24_le, lt_l24, l24_lt, eq_l24, l24_eq, le_l64, l64_le, lt_l64, l64_lt, eq_l64, l64_eq, le_l72, l72_le, lt_l72, l72_lt, eq_l72, l72_eq, le_l242, l242_le, lt_l242, l242_lt, eq_l242, l242_eq, le_l1180, l1180_le, lt_l1180, l1180_lt, eq_l1180, l1180_eq, le_l1200, l1200_le, lt_l1200, l1200_lt, eq_l1200, l1200_eq, le_l3388, l3388_le, lt_l3388, l3388_lt, eq_l3388, l3388_eq, le_l200000, l200000_le, lt_l200000, l200000_lt, eq_l200000, l200000_eq, le_l1000000, l1000000_le, lt_l1000000, l1000000_lt, eq_l1000000, l1000000_eq, le_nI, lt_nI, eq_nI, show n ≤ i by omega]
  | succ d ih =>
    intro i m b hi hm hfi hb
    obtain ⟨m, rfl⟩ : ∃ k, m = k + 1 := ⟨m - 1, by omega⟩
    obtain ⟨r0, r1⟩ := hR i hfi (by omega)
    cases hg : G i with
    | true =>
      rw [hg, if_pos rfl] at r1
      have c1 : aJ σ 44 i < 0 := by rw [l_lt, r1, l_0]; omega
      obtain ⟨b', p1, p2⟩ := ih (i + 1) m b (by omega) (by omega) (by omega) (by
        rcases hb with ⟨q1, q2⟩ | ⟨j, q1, q2, q3, q4, q5⟩
        · exact Or.inl ⟨q1, fun k a c => if hk : k = i then hk ▸ hg else q2 k a (by omega)⟩
        · exact Or.inr ⟨j, q1, q2, by omega, q4, fun k a c e => if hk : k = i then by rw [hk, hg] at e; cases e else q5 k a (by omega) e⟩)
      refine ⟨b', ?_, p2⟩
      rw [DX5_greatestRest_7]
      simp (disch := first | assumption | omega) [DX5_greatestRest_49, ckO, ckI, ckZ, ckJ, ckG, ckR, ckL, ckV, chk_true, h2, gI_pI, gJ_pI, gR_pI, aI_pI, aJ_pI, aG_pI, gN_pI, gF_pI, gM_pI, gZ_pI, tl_pI, gI_pJ, gJ_pJ, gR_pJ, aI_pJ, aJ_pJ, aG_pJ, gN_pJ, gF_pJ, gM_pJ, gZ_pJ, tl_pJ, gI_pR, gJ_pR, gR_pR, aI_pR, aJ_pR, aG_pR, gN_pR, gF_pR, gM_pR, gZ_pR, tl_pR, gI_wI, gJ_wI, gR_wI, aI_wI, aJ_wI, aG_wI, gN_wI, gF_wI, gM_wI, gZ_wI, tl_wI, gI_wJ, gJ_wJ, gR_wJ, aI_wJ, aJ_wJ, aG_wJ, gN_wJ, gF_wJ, gM_wJ, gZ_wJ, tl_wJ, gI_wG, gJ_wG, gR_wG, aI_wG, aJ_wG, aG_wG, gN_wG, gF_wG, gM_wG, gZ_wG, tl_wG, gS_pI, gS_pJ, gS_pR, gS_wI, gS_wJ, gS_wG, fr_25_0, fr_26_0, fr_26_1, fr_26_2, fr_26_3, fr_26_4, fr_26_5, fr_26_6, fr_26_7, fr_26_8, fr_36_6, fr_36_7, fr_36_8, fr_36_9, fr_36_10, fr_36_11, fr_36_12, fr_36_13, fr_36_14, fr_46_0, fr_46_1, fr_1_0, fr_1_4, fr_1_5, fr_1_6, fr_1_7, fr_1_8, fr_1_9, fr_b_10, fr_b_11, fr_b_12, fr_b_13, fr_b_14, fr_b_15, fr_b_16, fr_b_17, fr_b_18, fr_b_19, fin_pI, fin_pJ, fin_wI, fin_wJ, fin_wG, sh_b_1, lt_b_1, sh_b_2, lt_b_2, sh_b_3, lt_b_3, sh_b_4, lt_b_4, sh_b_5, lt_b_5, sh_b_6, lt_b_6, sh_b_7, lt_b_7, sh_b_8, lt_b_8, sh_b_9, lt_b_9, sh_b_10, lt_b_10, sh_b, lt_b, nz_b, finN, sh_1, sh_2, sh_25, sh_26, sh_27, sh_28, sh_29, sh_30, sh_31, sh_32, sh_33, sh_34, sh_35, sh_36, sh_37, sh_38, sh_39, sh_40, sh_41, sh_42, sh_43, sh_44, sh_45, sh_46, sh_47, sh_48, sh_49, sh_50, mul_nI_2, mul_nI_3, mul_nI_4, mul_nI_6, mul_nI_8, mul_nI_10, mul_nI_11, mul_nI_12, mul_nI_27, mul_nI_36, mul_nI_242, add_nI_0, dda_nI_0, add_nI_1, dda_nI_1, add_nI_2, dda_nI_2, add_nI_3, dda_nI_3, add_nI_4, dda_nI_4, add_nI_5, dda_nI_5, add_nI_6, dda_nI_6, add_nI_8, dda_nI_8, add_nI_12, dda_nI_12, add_nI_64, dda_nI_64, add_nI_128, dda_nI_128, add_nI_192, dda_nI_192, add_nI_228, dda_nI_228, add_nI_234, dda_nI_234, add_nI_242, dda_nI_242, sub_nI_1, sub_nI_2, sub_nI_20, sub_nI_242, inb_0, ixl_0, inb_1, ixl_1, inb_2, ixl_2, inb_3, ixl_3, inb_4, ixl_4, inb_5, ixl_5, inb_6, ixl_6, inb_7, ixl_7, inb_8, ixl_8, inb_9, ixl_9, inb_10, ixl_10, inb_11, ixl_11, nI_add, pk_mul, ixn, inbn, le_l0, l0_le, lt_l0, l0_lt, eq_l0, l0_eq, le_l1, l1_le, lt_l1, l1_lt, eq_l1, l1_eq, le_l2, l2_le, lt_l2, l2_lt, eq_l2, l2_eq, le_l3, l3_le, lt_l3, l3_lt, eq_l3, l3_eq, le_l4, l4_le, lt_l4, l4_lt, eq_l4, l4_eq, le_l5, l5_le, lt_l5, l5_lt, eq_l5, l5_eq, le_l6, l6_le, lt_l6, l6_lt, eq_l6, l6_eq, le_l8, l8_le, lt_l8, l8_lt, eq_l8, l8_eq, le_l9, l9_le, lt_l9, l9_lt, eq_l9, l9_eq, le_l10, l10_le, lt_l10, l10_lt, eq_l10, l10_eq, le_l11, l11_le, lt_l11, l11_lt, eq_l11, l11_eq, le_l12, l12_le, lt_l12, l12_lt, eq_l12, l12_eq, le_l14, l14_le, lt_l14, l14_lt, eq_l14, l14_eq, le_l16, l16_le, lt_l16, l16_lt, eq_l16, l16_eq, le_l20, l20_le, lt_l20, l20_lt, eq_l20, l20_eq, le_l24, l24_le, lt_l24, l24_lt, eq_l24, l24_eq, le_l64, l64_le, lt_l64, l64_lt, eq_l64, l64_eq, le_l72, l72_le, lt_l72, l72_lt, eq_l72, l72_eq, le_l242, l242_le, lt_l242, l242_lt, eq_l242, l242_eq, le_l1180, l1180_le, lt_l1180, l1180_lt, eq_l1180, l1180_eq, le_l1200, l1200_le, lt_l1200, l1200_lt, eq_l1200, l1200_eq, le_l3388, l3388_le, lt_l3388, l3388_lt, eq_l3388, l3388_eq, le_l200000, l200000_le, lt_l200000, l200000_lt, eq_l200000, l200000_eq, le_l1000000, l1000000_le, lt_l1000000, l1000000_lt, eq_l1000000, l1000000_eq, le_nI, lt_nI, eq_nI, show i < 8 by omega, show ¬ n ≤ i by omega, c1, p1]
    | false =>
      rw [hg] at r1
      simp only [Bool.false_eq_true, if_false] at r1
      have c1 : ¬ aJ σ 44 i < 0 := by rw [l_lt, r1, l_0]; omega
      rcases hb with ⟨q1, q2⟩ | ⟨j, q1, q2, q3, q4, q5⟩
      · subst q1
        obtain ⟨b', p1, p2⟩ := ih (i + 1) m (nI i) (by omega) (by omega) (by omega) (Or.inr ⟨i, rfl, hfi, by omega, hg, fun k a c e => by
          by_cases hk : k = i
          · exact Or.inl hk
          · rw [q2 k a (by omega)] at e; cases e⟩)
        refine ⟨b', ?_, p2⟩
        rw [DX5_greatestRest_7]
        simp (disch := first | assumption | omega) [DX5_greatestRest_49, DX5_greatestRest_47, ckO, ckI, ckZ, ckJ, ckG, ckR, ckL, ckV, chk_true, h2, gI_pI, gJ_pI, gR_pI, aI_pI, aJ_pI, aG_pI, gN_pI, gF_pI, gM_pI, gZ_pI, tl_pI, gI_pJ, gJ_pJ, gR_pJ, aI_pJ, aJ_pJ, aG_pJ, gN_pJ, gF_pJ, gM_pJ, gZ_pJ, tl_pJ, gI_pR, gJ_pR, gR_pR, aI_pR, aJ_pR, aG_pR, gN_pR, gF_pR, gM_pR, gZ_pR, tl_pR, gI_wI, gJ_wI, gR_wI, aI_wI, aJ_wI, aG_wI, gN_wI, gF_wI, gM_wI, gZ_wI, tl_wI, gI_wJ, gJ_wJ, gR_wJ, aI_wJ, aJ_wJ, aG_wJ, gN_wJ, gF_wJ, gM_wJ, gZ_wJ, tl_wJ, gI_wG, gJ_wG, gR_wG, aI_wG, aJ_wG, aG_wG, gN_wG, gF_wG, gM_wG, gZ_wG, tl_wG, gS_pI, gS_pJ, gS_pR, gS_wI, gS_wJ, gS_wG, fr_25_0, fr_26_0, fr_26_1, fr_26_2, fr_26_3, fr_26_4, fr_26_5, fr_26_6, fr_26_7, fr_26_8, fr_36_6, fr_36_7, fr_36_8, fr_36_9, fr_36_10, fr_36_11, fr_36_12, fr_36_13, fr_36_14, fr_46_0, fr_46_1, fr_1_0, fr_1_4, fr_1_5, fr_1_6, fr_1_7, fr_1_8, fr_1_9, fr_b_10, fr_b_11, fr_b_12, fr_b_13, fr_b_14, fr_b_15, fr_b_16, fr_b_17, fr_b_18, fr_b_19, fin_pI, fin_pJ, fin_wI, fin_wJ, fin_wG, sh_b_1, lt_b_1, sh_b_2, lt_b_2, sh_b_3, lt_b_3, sh_b_4, lt_b_4, sh_b_5, lt_b_5, sh_b_6, lt_b_6, sh_b_7, lt_b_7, sh_b_8, lt_b_8, sh_b_9, lt_b_9, sh_b_10, lt_b_10, sh_b, lt_b, nz_b, finN, sh_1, sh_2, sh_25, sh_26, sh_27, sh_28, sh_29, sh_30, sh_31, sh_32, sh_33, sh_34, sh_35, sh_36, sh_37, sh_38, sh_39, sh_40, sh_41, sh_42, sh_43, sh_44, sh_45, sh_46, sh_47, sh_48, sh_49, sh_50, mul_nI_2, mul_nI_3, mul_nI_4, mul_nI_6, mul_nI_8, mul_nI_10, mul_nI_11, mul_nI_12, mul_nI_27, mul_nI_36, mul_nI_242, add_nI_0, dda_nI_0, add_nI_1, dda_nI_1, add_nI_2, dda_nI_2, add_nI_3, dda_nI_3, add_nI_4, dda_nI_4, add_nI_5, dda_nI_5, add_nI_6, dda_nI_6, add_nI_8, dda_nI_8, add_nI_12, dda_nI_12, add_nI_64, dda_nI_64, add_nI_128, dda_nI_128, add_nI_192, dda_nI_192, add_nI_228, dda_nI_228, add_nI_234, dda_nI_234, add_nI_242, dda_nI_242, sub_nI_1, sub_nI_2, sub_nI_20, sub_nI_242, inb_0, ixl_0, inb_1, ixl_1, inb_2, ixl_2, inb_3, ixl_3, inb_4, ixl_4, inb_5, ixl_5, inb_6, ixl_6, inb_7, ixl_7, inb_8, ixl_8, inb_9, ixl_9, inb_10, ixl_10, inb_11, ixl_11, nI_add, pk_mul, ixn, inbn, le_l0, l0_le, lt_l0, l0_lt, eq_l0, l0_eq, le_l1, l1_le, lt_l1, l1_lt, eq_l1, l1_eq, le_l2, l2_le, lt_l2, l2_lt, eq_l2, l2_eq, le_l3, l3_le, lt_l3, l3_lt, eq_l3, l3_eq, le_l4, l4_le, lt_l4, l4_lt, eq_l4, l4_eq, le_l5, l5_le, lt_l5, l5_lt, eq_l5, l5_eq, le_l6, l6_le, lt_l6, l6_lt, eq_l6, l6_eq, le_l8, l8_le, lt_l8, l8_lt, eq_l8, l8_eq, le_l9, l9_le, lt_l9, l9_lt, eq_l9, l9_eq, le_l10, l10_le, lt_l10, l10_lt, eq_l10, l10_eq, le_l11, l11_le, lt_l11, l11_lt, eq_l11, l11_eq, le_l12, l12_le, lt_l12, l12_lt, eq_l12, l12_eq, le_l14, l14_le, lt_l14, l14_lt, eq_l14, l14_eq, le_l16, l16_le, lt_l16, l16_lt, eq_l16, l16_eq, le_l20, l20_le, lt_l20, l20_lt, eq_l20, l20_eq, le_l24, l24_le, lt_l24, l24_lt, eq_l24, l24_eq, le_l64, l64_le, lt_l64, l64_lt, eq_l64, l64_eq, le_l72, l72_le, lt_l72, l72_lt, eq_l72, l72_eq, le_l242, l242_le, lt_l242, l242_lt, eq_l242, l242_eq, le_l1180, l1180_le, lt_l1180, l1180_lt, eq_l1180, l1180_eq, le_l1200, l1200_le, lt_l1200, l1200_lt, eq_l1200, l1200_eq, le_l3388, l3388_le, lt_l3388, l3388_lt, eq_l3388, l3388_eq, le_l200000, l200000_le, lt_l200000, l200000_lt, eq_l200000, l200000_eq, le_l1000000, l1000000_le, lt_l1000000, l1000000_lt, eq_l1000000, l1000000_eq, le_nI, lt_nI, eq_nI, show i < 8 by omega, show ¬ n ≤ i by omega, c1, p1]
      · subst q1
        obtain ⟨s0, s1⟩ := hR j q2 (by omega)
        rw [q4] at s1
        simp only [Bool.false_eq_true, if_false] at s1
        have nj : ¬ nI j = -1 := by
          intro z
          exact nI_neg (by omega) z
        by_cases hc : r i ≤ r j
        · have c2 : aJ σ 44 i ≤ aJ σ 44 j := by rw [l_le, r1, s1]; exact hc
          obtain ⟨b', p1, p2⟩ := ih (i + 1) m (nI j) (by omega) (by omega) (by omega) (Or.inr ⟨j, rfl, q2, by omega, q4, fun k a c e => by
            by_cases hk : k = i
            · subst hk
              right
              rw [bt_iff]
              omega
            · exact q5 k a (by omega) e⟩)
          refine ⟨b', ?_, p2⟩
          rw [DX5_greatestRest_7]
          simp (disch := first | assumption | omega) [DX5_greatestRest_49, DX5_greatestRest_47, ckO, ckI, ckZ, ckJ, ckG, ckR, ckL, ckV, chk_true, h2, gI_pI, gJ_pI, gR_pI, aI_pI, aJ_pI, aG_pI, gN_pI, gF_pI, gM_pI, gZ_pI, tl_pI, gI_pJ, gJ_pJ, gR_pJ, aI_pJ, aJ_pJ, aG_pJ, gN_pJ, gF_pJ, gM_pJ, gZ_pJ, tl_pJ, gI_pR, gJ_pR, gR_pR, aI_pR, aJ_pR, aG_pR, gN_pR, gF_pR, gM_pR, gZ_pR, tl_pR, gI_wI, gJ_wI, gR_wI, aI_wI, aJ_wI, aG_wI, gN_wI, gF_wI, gM_wI, gZ_wI, tl_wI, gI_wJ, gJ_wJ, gR_wJ, aI_wJ, aJ_wJ, aG_wJ, gN_wJ, gF_wJ, gM_wJ, gZ_wJ, tl_wJ, gI_wG, gJ_wG, gR_wG, aI_wG, aJ_wG, aG_wG, gN_wG, gF_wG, gM_wG, gZ_wG, tl_wG, gS_pI, gS_pJ, gS_pR, gS_wI, gS_wJ, gS_wG, fr_25_0, fr_26_0, fr_26_1, fr_26_2, fr_26_3, fr_26_4, fr_26_5, fr_26_6, fr_26_7, fr_26_8, fr_36_6, fr_36_7, fr_36_8, fr_36_9, fr_36_10, fr_36_11, fr_36_12, fr_36_13, fr_36_14, fr_46_0, fr_46_1, fr_1_0, fr_1_4, fr_1_5, fr_1_6, fr_1_7, fr_1_8, fr_1_9, fr_b_10, fr_b_11, fr_b_12, fr_b_13, fr_b_14, fr_b_15, fr_b_16, fr_b_17, fr_b_18, fr_b_19, fin_pI, fin_pJ, fin_wI, fin_wJ, fin_wG, sh_b_1, lt_b_1, sh_b_2, lt_b_2, sh_b_3, lt_b_3, sh_b_4, lt_b_4, sh_b_5, lt_b_5, sh_b_6, lt_b_6, sh_b_7, lt_b_7, sh_b_8, lt_b_8, sh_b_9, lt_b_9, sh_b_10, lt_b_10, sh_b, lt_b, nz_b, finN, sh_1, sh_2, sh_25, sh_26, sh_27, sh_28, sh_29, sh_30, sh_31, sh_32, sh_33, sh_34, sh_35, sh_36, sh_37, sh_38, sh_39, sh_40, sh_41, sh_42, sh_43, sh_44, sh_45, sh_46, sh_47, sh_48, sh_49, sh_50, mul_nI_2, mul_nI_3, mul_nI_4, mul_nI_6, mul_nI_8, mul_nI_10, mul_nI_11, mul_nI_12, mul_nI_27, mul_nI_36, mul_nI_242, add_nI_0, dda_nI_0, add_nI_1, dda_nI_1, add_nI_2, dda_nI_2, add_nI_3, dda_nI_3, add_nI_4, dda_nI_4, add_nI_5, dda_nI_5, add_nI_6, dda_nI_6, add_nI_8, dda_nI_8, add_nI_12, dda_nI_12, add_nI_64, dda_nI_64, add_nI_128, dda_nI_128, add_nI_192, dda_nI_192, add_nI_228, dda_nI_228, add_nI_234, dda_nI_234, add_nI_242, dda_nI_242, sub_nI_1, sub_nI_2, sub_nI_20, sub_nI_242, inb_0, ixl_0, inb_1, ixl_1, inb_2, ixl_2, inb_3, ixl_3, inb_4, ixl_4, inb_5, ixl_5, inb_6, ixl_6, inb_7, ixl_7, inb_8, ixl_8, inb_9, ixl_9, inb_10, ixl_10, inb_11, ixl_11, nI_add, pk_mul, ixn, inbn, le_l0, l0_le, lt_l0, l0_lt, eq_l0, l0_eq, le_l1, l1_le, lt_l1, l1_lt, eq_l1, l1_eq, le_l2, l2_le, lt_l2, l2_lt, eq_l2, l2_eq, le_l3, l3_le, lt_l3, l3_lt, eq_l3, l3_eq, le_l4, l4_le, lt_l4, l4_lt, eq_l4, l4_eq, le_l5, l5_le, lt_l5, l5_lt, eq_l5, l5_eq, le_l6, l6_le, lt_l6, l6_lt, eq_l6, l6_eq, le_l8, l8_le, lt_l8, l8_lt, eq_l8, l8_eq, le_l9, l9_le, lt_l9, l9_lt, eq_l9, l9_eq, le_l10, l10_le, lt_l10, l10_lt, eq_l10, l10_eq, le_l11, l11_le, lt_l11, l11_lt, eq_l11, l11_eq, le_l12, l12_le, lt_l12, l12_lt, eq_l12, l12_eq, le_l14, l14_le, lt_l14, l14_lt, eq_l14, l14_eq, le_l16, l16_le, lt_l16, l16_lt, eq_l16, l16_eq, le_l20, l20_le, lt_l20, l20_lt, eq_l20, l20_eq, le_l24, l24_le, lt_l24, l24_lt, eq_l24, l24_eq, le_l64, l64_le, lt_l64, l64_lt, eq_l64, l64_eq, le_l72, l72_le, lt_l72, l72_lt, eq_l72, l72_eq, le_l242, l242_le, lt_l242, l242_lt, eq_l242, l242_eq, le_l1180, l1180_le, lt_l1180, l1180_lt, eq_l1180, l1180_eq, le_l1200, l1200_le, lt_l1200, l1200_lt, eq_l1200, l1200_eq, le_l3388, l3388_le, lt_l3388, l3388_lt, eq_l3388, l3388_eq, le_l200000, l200000_le, lt_l200000, l200000_lt, eq_l200000, l200000_eq, le_l1000000, l1000000_le, lt_l1000000, l1000000_lt, eq_l1000000, l1000000_eq, le_nI, lt_nI, eq_nI, show i < 8 by omega, show j < 8 by omega, show ¬ n ≤ i by omega, c1, nj, c2, p1]
        · have c2 : ¬ aJ σ 44 i ≤ aJ σ 44 j := by rw [l_le, r1, s1]; exact hc
          obtain ⟨b', p1, p2⟩ := ih (i + 1) m (nI i) (by omega) (by omega) (by omega) (Or.inr ⟨i, rfl, hfi, by omega, hg, fun k a c e => by
            by_cases hk : k = i
            · exact Or.inl hk
            · right
              rcases q5 k a (by omega) e with z | z
              · subst z
                rw [bt_iff]
                omega
              · rw [bt_iff] at z ⊢
                omega⟩)
          refine ⟨b', ?_, p2⟩
          rw [DX5_greatestRest_7]
          simp (disch := first | assumption | omega) [DX5_greatestRest_49, DX5_greatestRest_47, ckO, ckI, ckZ, ckJ, ckG, ckR, ckL, ckV, chk_true, h2, gI_pI, gJ_pI, gR_pI, aI_pI, aJ_pI, aG_pI, gN_pI, gF_pI, gM_pI, gZ_pI, tl_pI, gI_pJ, gJ_pJ, gR_pJ, aI_pJ, aJ_pJ, aG_pJ, gN_pJ, gF_pJ, gM_pJ, gZ_pJ, tl_pJ, gI_pR, gJ_pR, gR_pR, aI_pR, aJ_pR, aG_pR, gN_pR, gF_pR, gM_pR, gZ_pR, tl_pR, gI_wI, gJ_wI, gR_wI, aI_wI, aJ_wI, aG_wI, gN_wI, gF_wI, gM_wI, gZ_wI, tl_wI, gI_wJ, gJ_wJ, gR_wJ, aI_wJ, aJ_wJ, aG_wJ, gN_wJ, gF_wJ, gM_wJ, gZ_wJ, tl_wJ, gI_wG, gJ_wG, gR_wG, aI_wG, aJ_wG, aG_wG, gN_wG, gF_wG, gM_wG, gZ_wG, tl_wG, gS_pI, gS_pJ, gS_pR, gS_wI, gS_wJ, gS_wG, fr_25_0, fr_26_0, fr_26_1, fr_26_2, fr_26_3, fr_26_4, fr_26_5, fr_26_6, fr_26_7, fr_26_8, fr_36_6, fr_36_7, fr_36_8, fr_36_9, fr_36_10, fr_36_11, fr_36_12, fr_36_13, fr_36_14, fr_46_0, fr_46_1, fr_1_0, fr_1_4, fr_1_5, fr_1_6, fr_1_7, fr_1_8, fr_1_9, fr_b_10, fr_b_11, fr_b_12, fr_b_13, fr_b_14, fr_b_15, fr_b_16, fr_b_17, fr_b_18, fr_b_19, fin_pI, fin_pJ, fin_wI, fin_wJ, fin_wG, sh_b_1, lt_b_1, sh_b_2, lt_b_2, sh_b_3, lt_b_3, sh_b_4, lt_b_4, sh_b_5, lt_b_5, sh_b_6, lt_b_6, sh_b_7, lt_b_7, sh_b_8, lt_b_8, sh_b_9, lt_b_9, sh_b_10, lt_b_10, sh_b, lt_b, nz_b, finN, sh_1, sh_2, sh_25, sh_26, sh_27, sh_28, sh_29, sh_30, sh_31, sh_32, sh_33, sh_34, sh_35, sh_36, sh_37, sh_38, sh_39, sh_40, sh_41, sh_42, sh_43, sh_44, sh_45, sh_46, sh_47, sh_48, sh_49, sh_50, mul_nI_2, mul_nI_3, mul_nI_4, mul_nI_6, mul_nI_8, mul_nI_10, mul_nI_11, mul_nI_12, mul_nI_27, mul_nI_36, mul_nI_242, add_nI_0, dda_nI_0, add_nI_1, dda_nI_1, add_nI_2, dda_nI_2, add_nI_3, dda_nI_3, add_nI_4, dda_nI_4, add_nI_5, dda_nI_5, add_nI_6, dda_nI_6, add_nI_8, dda_nI_8, add_nI_12, dda_nI_12, add_nI_64, dda_nI_64, add_nI_128, dda_nI_128, add_nI_192, dda_nI_192, add_nI_228, dda_nI_228, add_nI_234, dda_nI_234, add_nI_242, dda_nI_242, sub_nI_1, sub_nI_2, sub_nI_20, sub_nI_242, inb_0, ixl_0, inb_1, ixl_1, inb_2, ixl_2, inb_3, ixl_3, inb_4, ixl_4, inb_5, ixl_5, inb_6, ixl_6, inb_7, ixl_7, inb_8, ixl_8, inb_9, ixl_9, inb_10, ixl_10, inb_11, ixl_11, nI_add, pk_mul, ixn, inbn, le_l0, l0_le, lt_l0, l0_lt, eq_l0, l0_eq, le_l1, l1_le, lt_l1, l1_lt, eq_l1, l1_eq, le_l2, l2_le, lt_l2, l2_lt, eq_l2, l2_eq, le_l3, l3_le, lt_l3, l3_lt, eq_l3, l3_eq, le_l4, l4_le, lt_l4, l4_lt, eq_l4, l4_eq, le_l5, l5_le, lt_l5, l5_lt, eq_l5, l5_eq, le_l6, l6_le, lt_l6, l6_lt, eq_l6, l6_eq, le_l8, l8_le, lt_l8, l8_lt, eq_l8, l8_eq, le_l9, l9_le, lt_l9, l9_lt, eq_l9, l9_eq, le_l10, l10_le, lt_l10, l10_lt, eq_l10, l10_eq, le_l11, l11_le, lt_l11, l11_lt, eq_l11, l11_eq, le_l12, l12_le, lt_l12, l12_lt, eq_l12, l12_eq, le_l14, l14_le, lt_l14, l14_lt, eq_l14, l14_eq, le_l16, l16_le, lt_l16, l16_lt, eq_l16, l16_eq, le_l20, l20_le, lt_l20, l20_lt, eq_l20, l20_eq, le_l24, l24_le, lt_l24, l24_lt, eq_l24, l24_eq, le_l64, l64_le, lt_l64, l64_lt, eq_l64, l64_eq, le_l72, l72_le, lt_l72, l72_lt, eq_l72, l72_eq, le_l242, l242_le, lt_l242, l242_lt, eq_l242, l242_eq, le_l1180, l1180_le, lt_l1180, l1180_lt, eq_l1180, l1180_eq, le_l1200, l1200_le, lt_l1200, l1200_lt, eq_l1200, l1200_eq, le_l3388, l3388_le, lt_l3388, l3388_lt, eq_l3388, l3388_eq, le_l200000, l200000_le, lt_l200000, l200000_lt, eq_l200000, l200000_eq, le_l1000000, l1000000_le, lt_l1000000, l1000000_lt, eq_l1000000, l1000000_eq, le_nI, lt_nI, eq_nI, show i < 8 by omega, show j < 8 by omega, show ¬ n ≤ i by omega, c1, nj, c2, p1]

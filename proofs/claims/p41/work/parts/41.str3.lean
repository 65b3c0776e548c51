/-! THE LAW'S TEXTS: numbers, strings made, letters read -/
def dgs (v : Nat) : List Nat := if v < 10 then [48 + v] else if v < 100 then [48 + v / 10, 48 + v % 10] else if v < 1000 then [48 + v / 100, 48 + v / 10 % 10, 48 + v % 10] else [48 + v / 1000, 48 + v / 100 % 10, 48 + v / 10 % 10, 48 + v % 10]
theorem dgs_len {v : Nat} : (dgs v).length = if v < 10 then 1 else if v < 100 then 2 else if v < 1000 then 3 else 4 := by
  unfold dgs
  split
  · rfl
  · split
    · rfl
    · split <;> rfl
theorem dgs_le {v : Nat} : 1 ≤ (dgs v).length ∧ (dgs v).length ≤ 4 := by
  rw [dgs_len]
  split
  · omega
  · split
    · omega
    · split <;> omega
theorem neg_i {v : Nat} (h : v < 2147483648) : (-nI v).toInt = -(v : Int) := by
  have e := nI_toInt h
  rw [Int32.toInt_neg, e, Int.bmod_eq_of_le (by omega) (by omega)]
theorem neg_le {v k : Nat} (hv : v < 2147483648) (hk : k < 2147483648) : (-nI v ≤ -nI k) = (k ≤ v) := by
  rw [Int32.le_iff_toInt_le, neg_i hv, neg_i hk]
  exact propext ⟨fun h => by omega, fun h => by omega⟩
theorem neg_lt {v k : Nat} (hv : v < 2147483648) (hk : k < 2147483648) : (-nI k < -nI v) = (v < k) := by
  rw [Int32.lt_iff_toInt_lt, neg_i hv, neg_i hk]
  exact propext ⟨fun h => by omega, fun h => by omega⟩
theorem j_size16 {σ : Sg} {v m : Nat} (hv : v < 10000) : DJ6_stringSize_0f7a4_16 (m + 1 + 1 + 1 + 1) (-nI v) 0 (-nI 10) (nI 1) σ = some (nI (dgs v).length, σ) := by
  have a2 : (10 : Int32) * -nI 10 = -nI 100 := by decide
  have a3 : (10 : Int32) * -nI 100 = -nI 1000 := by decide
  have a4 : (10 : Int32) * -nI 1000 = -nI 10000 := by decide
  have b1 : ¬ (10 : Int32) ≤ nI 1 := by decide
  have b2 : ¬ (10 : Int32) ≤ nI 2 := by decide
  have b3 : ¬ (10 : Int32) ≤ nI 3 := by decide
  have b4 : ¬ (10 : Int32) ≤ nI 4 := by decide
  have c1 : nI 1 + (1 : Int32) = nI 2 := by decide
  have c2 : nI 2 + (1 : Int32) = nI 3 := by decide
  have c3 : nI 3 + (1 : Int32) = nI 4 := by decide
  have z : ∀ k, nI k + (0 : Int32) = nI k := fun k => Int32.add_zero _
  rw [dgs_len, DJ6_stringSize_0f7a4_16, if_neg b1]
  by_cases q1 : v < 10
  · rw [if_neg (show ¬ (-nI v ≤ -nI 10) by rw [neg_le (by omega) (by omega)]; omega), if_pos q1]
    unfold DJ6_stringSize_0f7a4_27
    rw [z]
  rw [if_pos (show -nI v ≤ -nI 10 by rw [neg_le (by omega) (by omega)]; omega), if_neg q1, a2, c1, DJ6_stringSize_0f7a4_16, if_neg b2]
  by_cases q2 : v < 100
  · rw [if_neg (show ¬ (-nI v ≤ -nI 100) by rw [neg_le (by omega) (by omega)]; omega), if_pos q2]
    unfold DJ6_stringSize_0f7a4_27
    rw [z]
  rw [if_pos (show -nI v ≤ -nI 100 by rw [neg_le (by omega) (by omega)]; omega), if_neg q2, a3, c2, DJ6_stringSize_0f7a4_16, if_neg b3]
  by_cases q3 : v < 1000
  · rw [if_neg (show ¬ (-nI v ≤ -nI 1000) by rw [neg_le (by omega) (by omega)]; omega), if_pos q3]
    unfold DJ6_stringSize_0f7a4_27
    rw [z]
  rw [if_pos (show -nI v ≤ -nI 1000 by rw [neg_le (by omega) (by omega)]; omega), if_neg q3, a4, c3, DJ6_stringSize_0f7a4_16, if_neg b4]
  rw [if_neg (show ¬ (-nI v ≤ -nI 10000) by rw [neg_le (by omega) (by omega)]; omega)]
  unfold DJ6_stringSize_0f7a4_27
  rw [z]
theorem j_size {σ : Sg} {v : Nat} (hv : v < 10000) : DJ6_stringSize_0f7a4 (nI v) σ = some (nI (dgs v).length, σ) := by
  unfold DJ6_stringSize_0f7a4 DJ6_stringSize_0f7a4_11
  rw [if_neg (show ¬ nI v < 0 from nI_nlt (b := 0) (by omega) (by omega))]
  exact j_size16 (m := 4092) hv
/-- letters laid from behind -/
theorem b48 : ∀ k : Fin 10, (nI (48 + k.val)).toInt8.toInt32 = nI (48 + k.val) := by decide +kernel
theorem negneg {v : Nat} : - -nI v = nI v := Int32.neg_neg
theorem j_gc72 {L : Nat} {xs : Nat → Int32} {σ : Sg} {v y c at_ : Nat} (hO : OutP L xs σ) (hv : v < 100) (hS : gS σ y = (6, c)) (h1 : 2000 ≤ y) (h2 : y < 2000 + gM σ) (hc : c ≤ 1700) (ha : at_ ≤ c) (ha2 : (if v < 10 then 1 else 2) ≤ at_) :
    DJ6_getChars_ba4f3_72 (-nI v) y (nI at_) 0 σ = some (if v < 10 then (nI (at_ - 1), wI σ y (at_ - 1) (nI (48 + v))) else (nI (at_ - 2), wI (wI σ y (at_ - 1) (nI (48 + v % 10))) y (at_ - 2) (nI (48 + v / 10)))) := by
  obtain ⟨d1, d2, d3, d4⟩ := hO.dg hv
  have e1 : nI at_ + (-1 : Int32) = nI (at_ - 1) := by
    have := pk_sub (a := at_) (b := 1) (by split at ha2 <;> omega)
    rw [← this, Int32.sub_eq_add_neg]
    rfl
  have k1 : ckB σ 6 y (nI (at_ - 1)) = true := ckB_i hS h1 h2 (by split at ha2 <;> omega) hc
  have m9 : ((-9 : Int32) ≤ -nI v) = (v < 10) := by
    rw [show (-9 : Int32) = -nI 9 by decide, neg_le (by omega) (by omega)]
    exact propext ⟨fun h => by omega, fun h => by omega⟩
  have b1 := b48 ⟨v % 10, by omega⟩
  have b2 := b48 ⟨v / 10, by omega⟩
  simp only at b1 b2
  unfold DJ6_getChars_ba4f3_72 DJ6_getChars_ba4f3_104 DJ6_getChars_ba4f3_118
  rw [negneg, d1, chk_true, e1, k1, chk_true, wlet_eq, nI_clamp (show v < 2 ^ 31 by omega), nI_clamp (show at_ - 1 < 2 ^ 31 by omega), d3, b1, if_pos rfl]
  by_cases q : v < 10
  · rw [if_pos (m9.mpr q), if_pos q, Nat.mod_eq_of_lt q]
  · rw [if_neg (fun z => q (m9.mp z)), if_neg q]
    rw [if_neg q] at ha2
    have e2 : nI (at_ - 1) + (-1 : Int32) = nI (at_ - 2) := by
      have := pk_sub (a := at_ - 1) (b := 1) (by omega)
      rw [show at_ - 1 - 1 = at_ - 2 by omega] at this
      rw [← this, Int32.sub_eq_add_neg]
      rfl
    have k2 : ckB (wI σ y (at_ - 1) (nI (48 + v % 10))) 6 y (nI (at_ - 2)) = true := ckB_i (σ := wI σ y (at_ - 1) (nI (48 + v % 10))) hS h1 h2 (by omega) hc
    have d2' : ckA (wI σ y (at_ - 1) (nI (48 + v % 10))) 6 1027 (nI v) = true := d2
    have d4' : aI (wI σ y (at_ - 1) (nI (48 + v % 10))) 1027 v = nI (48 + v / 10) := by rw [aI_wI, if_neg (by omega)]; exact d4
    rw [d2', chk_true, e2, k2, chk_true, wlet_eq, nI_clamp (show at_ - 2 < 2 ^ 31 by omega), d4', b2, if_pos rfl]
theorem i32_div {a k : Nat} (ha : a < 2147483648) (hk : 0 < k) (hk2 : k < 2147483648) : nI a / nI k = nI (a / k) := by
  have hd : a / k ≤ a := Nat.div_le_self _ _
  have e0 : (a : Int).tdiv (k : Int) = ((a / k : Nat) : Int) := (Int.ofNat_tdiv a k).symm
  refine Int32.toInt_inj.mp ?_
  rw [Int32.toInt_div, nI_toInt ha, nI_toInt hk2, nI_toInt (by omega), e0]
  generalize a / k = q at hd ⊢
  exact Int.bmod_eq_of_le (by omega) (by omega)
theorem i32_mod {a k : Nat} (ha : a < 2147483648) (hk : 0 < k) (hk2 : k < 2147483648) : nI a - nI a / nI k * nI k = nI (a % k) := by
  rw [i32_div ha hk hk2, pk_mul, pk_sub (Nat.div_mul_le_self a k)]
  refine congrArg nI ?_
  have := Nat.div_add_mod a k
  rw [Nat.mul_comm] at this
  omega
theorem j_gc {L : Nat} {xs : Nat → Int32} {σ : Sg} {v y c at_ : Nat} (hO : OutP L xs σ) (hv : v < 10000) (hS : gS σ y = (6, c)) (h1 : 2000 ≤ y) (h2 : y < 2000 + gM σ) (hc : c ≤ 1700) (ha : at_ + (dgs v).length ≤ c) :
    ∃ τ, DJ6_getChars_ba4f3 (nI v) (nI (at_ + (dgs v).length)) y σ = some (nI at_, τ) ∧ G1 (fun x => x = y) σ τ 0 ∧ gM τ = gM σ ∧ gS τ = gS σ ∧ gI τ = gI σ ∧ gR τ = gR σ ∧ (∀ i, i < at_ → aI τ y i = aI σ y i) ∧ ∀ i, i < (dgs v).length → aI τ y (at_ + i) = nI ((dgs v).getD i 0) := by
  have ed := dgs_len (v := v)
  unfold DJ6_getChars_ba4f3 DJ6_getChars_ba4f3_12
  rw [if_pos (show (0 : Int32) ≤ nI v from nI_pos' (by omega)), if_pos rfl]
  show ∃ τ, DJ6_getChars_ba4f3_22 (4094 + 1 + 1) (-nI v) y (nI (at_ + (dgs v).length)) 0 σ = some (nI at_, τ) ∧ _
  by_cases q : v < 100
  · have e := j_gc72 (at_ := at_ + (dgs v).length) hO q hS h1 h2 hc ha (by rw [ed]; split <;> omega)
    rw [DJ6_getChars_ba4f3_22, if_pos (show (-100 : Int32) < -nI v by rw [show (-100 : Int32) = -nI 100 by decide, neg_lt (by omega) (by omega)]; exact q), e]
    by_cases q1 : v < 10
    · have el : (dgs v).length = 1 := by rw [ed, if_pos q1]
      have ev : dgs v = [48 + v] := if_pos q1
      rw [if_pos q1, el, show at_ + 1 - 1 = at_ by omega]
      refine ⟨_, rfl, g1_wI, rfl, rfl, rfl, rfl, fun i hi => by rw [aI_wI, if_neg (by omega)], fun i hi => ?_⟩
      obtain rfl : i = 0 := by omega
      rw [aI_wI, if_pos ⟨rfl, rfl⟩, ev]
      rfl
    · have el : (dgs v).length = 2 := by rw [ed, if_neg q1, if_pos q]
      have ev : dgs v = [48 + v / 10, 48 + v % 10] := by unfold dgs; rw [if_neg q1, if_pos q]
      rw [if_neg q1, el, show at_ + 2 - 1 = at_ + 1 by omega, show at_ + 2 - 2 = at_ by omega]
      refine ⟨_, rfl, (g1_wI.tr g1_wI (fun _ _ z => z)), rfl, rfl, rfl, rfl, fun i hi => by rw [aI_wI, if_neg (by omega), aI_wI, if_neg (by omega)], fun i hi => ?_⟩
      rcases (by omega : i = 0 ∨ i = 1) with rfl | rfl
      · rw [aI_wI, if_pos ⟨rfl, rfl⟩, ev]; rfl
      · rw [aI_wI, if_neg (by omega), aI_wI, if_pos ⟨rfl, rfl⟩, ev]; rfl
  · have hq : v / 100 < 100 ∧ 1 ≤ v / 100 := by omega
    obtain ⟨d1, d2, d3, d4⟩ := hO.dg (show v % 100 < 100 by omega)
    have el : (dgs v).length = (if v / 100 < 10 then 1 else 2) + 2 := by
      rw [ed, if_neg (by omega), if_neg q]
      by_cases q3 : v < 1000
      · rw [if_pos q3, if_pos (by omega)]
      · rw [if_neg q3, if_neg (by omega)]
    have eneg : ∀ k : Nat, k < 2147483648 → (-nI k) = nI 0 - nI k := fun k _ => by rw [show nI 0 = (0 : Int32) from rfl, Int32.zero_sub]
    have e1 : (-nI v) / (100 : Int32) = -nI (v / 100) := by
      refine Int32.toInt_inj.mp ?_
      have e0 : (v : Int).tdiv 100 = ((v / 100 : Nat) : Int) := (Int.ofNat_tdiv v 100).symm
      rw [Int32.toInt_div, neg_i (by omega), neg_i (by omega), show (100 : Int32).toInt = 100 by decide, Int.neg_tdiv, e0]
      exact Int.bmod_eq_of_le (by omega) (by omega)
    have e2 : (-nI (v / 100)) * (100 : Int32) - (-nI v) = nI (v % 100) := by
      have e3 : nI v = nI (v / 100) * nI 100 + nI (v % 100) := by
        rw [pk_mul, nI_add]
        exact congrArg nI (by omega)
      rw [e3, show (100 : Int32) = nI 100 from rfl, Int32.neg_mul, Int32.sub_eq_add_neg, Int32.neg_neg, ← Int32.add_assoc, Int32.add_left_neg, Int32.zero_add]
    have p1 : ∀ k, 1 ≤ k → nI k + (-1 : Int32) = nI (k - 1) := fun k hk => by
      rw [← pk_sub (a := k) (b := 1) hk, Int32.sub_eq_add_neg]
      rfl
    have ln : (if v / 100 < 10 then 1 else 2) ≤ 2 ∧ 1 ≤ (if v / 100 < 10 then 1 else 2) := by split <;> omega
    have b1 := b48 ⟨v % 10, by omega⟩
    have b2 := b48 ⟨v % 100 / 10, by omega⟩
    simp only at b1 b2
    obtain ⟨l, hl⟩ : ∃ l, (if v / 100 < 10 then 1 else 2) = l := ⟨_, rfl⟩
    rw [hl] at el ln
    rw [el] at ha ⊢
    have k1 : ckB σ 6 y (nI (at_ + (l + 2) - 1)) = true := ckB_i hS h1 h2 (by omega) hc
    have w1 : OutP L xs (wI (wI σ y (at_ + (l + 2) - 1) (nI (48 + v % 10))) y (at_ + (l + 2) - 2) (nI (48 + v % 100 / 10))) := (hO.g (g1_wI (a := y) (k := at_ + (l + 2) - 1) (v := nI (48 + v % 10))) (fun a ha z => by omega)).g (g1_wI (a := y) (k := at_ + (l + 2) - 2) (v := nI (48 + v % 100 / 10))) (fun a ha z => by omega)
    have k2 : ckB (wI σ y (at_ + (l + 2) - 1) (nI (48 + v % 10))) 6 y (nI (at_ + (l + 2) - 2)) = true := ckB_i (σ := wI σ y (at_ + (l + 2) - 1) (nI (48 + v % 10))) hS h1 h2 (by omega) hc
    have d2' : ckA (wI σ y (at_ + (l + 2) - 1) (nI (48 + v % 10))) 6 1027 (nI (v % 100)) = true := d2
    have d4' : aI (wI σ y (at_ + (l + 2) - 1) (nI (48 + v % 10))) 1027 (v % 100) = nI (48 + v % 100 / 10) := by rw [aI_wI, if_neg (by omega)]; exact d4
    have e := j_gc72 (σ := wI (wI σ y (at_ + (l + 2) - 1) (nI (48 + v % 10))) y (at_ + (l + 2) - 2) (nI (48 + v % 100 / 10))) (v := v / 100) (y := y) (c := c) (at_ := at_ + l) w1 hq.1 hS h1 h2 hc (by omega) (by rw [hl]; omega)
    rw [DJ6_getChars_ba4f3_22, if_neg (show ¬ (-100 : Int32) < -nI v by rw [show (-100 : Int32) = -nI 100 by decide, neg_lt (by omega) (by omega)]; exact q), show ckN (100 : Int32) = true by decide, chk_true, e1, e2, d1, chk_true, p1 _ (by omega), k1, chk_true, wlet_eq, nI_clamp (show v % 100 < 2 ^ 31 by omega), nI_clamp (show at_ + (l + 2) - 1 < 2 ^ 31 by omega), d3, show v % 100 % 10 = v % 10 by omega, b1, d2', chk_true, p1 _ (by omega), show at_ + (l + 2) - 1 - 1 = at_ + (l + 2) - 2 by omega, k2, chk_true, wlet_eq, nI_clamp (show at_ + (l + 2) - 2 < 2 ^ 31 by omega), d4', b2, show at_ + (l + 2) - 2 = at_ + l by omega]
    rw [show at_ + (l + 2) - 2 = at_ + l by omega] at e
    rw [DJ6_getChars_ba4f3_22, if_pos (show (-100 : Int32) < -nI (v / 100) by rw [show (-100 : Int32) = -nI 100 by decide, neg_lt (by omega) (by omega)]; exact hq.1), e]
    by_cases q1 : v / 100 < 10
    · rw [if_pos q1] at hl
      subst hl
      have ev : dgs v = [48 + v / 100, 48 + v / 10 % 10, 48 + v % 10] := by unfold dgs; rw [if_neg (by omega), if_neg q, if_pos (by omega)]
      rw [if_pos q1, show at_ + 1 - 1 = at_ by omega, show at_ + (1 + 2) - 1 = at_ + 2 by omega]
      refine ⟨_, rfl, ((g1_wI.tr g1_wI (fun _ _ z => z)).tr g1_wI (fun _ _ z => z)), rfl, rfl, rfl, rfl, fun i hi => by rw [aI_wI, if_neg (by omega), aI_wI, if_neg (by omega), aI_wI, if_neg (by omega)], fun i hi => ?_⟩
      rcases (by omega : i = 0 ∨ i = 1 ∨ i = 2) with rfl | rfl | rfl
      · rw [aI_wI, if_pos ⟨rfl, rfl⟩, ev]; rfl
      · rw [aI_wI, if_neg (by omega), aI_wI, if_pos ⟨rfl, rfl⟩, ev, show v % 100 / 10 = v / 10 % 10 by omega]; rfl
      · rw [aI_wI, if_neg (by omega), aI_wI, if_neg (by omega), aI_wI, if_pos ⟨rfl, rfl⟩, ev]; rfl
    · rw [if_neg q1] at hl
      subst hl
      have ev : dgs v = [48 + v / 1000, 48 + v / 100 % 10, 48 + v / 10 % 10, 48 + v % 10] := by unfold dgs; rw [if_neg (by omega), if_neg q, if_neg (by omega)]
      rw [if_neg q1, show at_ + 2 - 2 = at_ by omega, show at_ + 2 - 1 = at_ + 1 by omega, show at_ + (2 + 2) - 1 = at_ + 3 by omega]
      refine ⟨_, rfl, (((g1_wI.tr g1_wI (fun _ _ z => z)).tr g1_wI (fun _ _ z => z)).tr g1_wI (fun _ _ z => z)), rfl, rfl, rfl, rfl, fun i hi => by rw [aI_wI, if_neg (by omega), aI_wI, if_neg (by omega), aI_wI, if_neg (by omega), aI_wI, if_neg (by omega)], fun i hi => ?_⟩
      rcases (by omega : i = 0 ∨ i = 1 ∨ i = 2 ∨ i = 3) with rfl | rfl | rfl | rfl
      · rw [aI_wI, if_pos ⟨rfl, rfl⟩, ev, show v / 100 / 10 = v / 1000 by omega]; rfl
      · rw [aI_wI, if_neg (by omega), aI_wI, if_pos ⟨rfl, rfl⟩, ev]; rfl
      · rw [aI_wI, if_neg (by omega), aI_wI, if_neg (by omega), aI_wI, if_pos ⟨rfl, rfl⟩, ev, show v % 100 / 10 = v / 10 % 10 by omega]; rfl
      · rw [aI_wI, if_neg (by omega), aI_wI, if_neg (by omega), aI_wI, if_neg (by omega), aI_wI, if_pos ⟨rfl, rfl⟩, ev]; rfl

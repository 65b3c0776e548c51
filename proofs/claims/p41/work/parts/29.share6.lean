theorem ite_nn {c : Bool} {x : Int} (h : 0 ≤ x) : 0 ≤ if c then x else 0 := by cases c <;> simp [h]
abbrev BB (kd : Nat → Int32) (vl fc : Nat → Int) (w : Int32) (bv : Nat → Int32) (pool : Int) (fl n k : Nat) : Bool := beyB kd vl fc w bv pool (FS fc bv fl n) k
theorem StC.cg {σ : Sg} {n fl : Nat} {bv bv' : Nat → Int32} {wh wh' : Nat → Int} (h : StC σ n fl bv wh) (h1 : ∀ k, fl ≤ k → k < n → bv k = bv' k) (h2 : ∀ k, fl ≤ k → k < n → wh k = wh' k) : StC σ n fl bv' wh' :=
  fun k a b => by
    have := h k a b
    rw [h1 k a b, h2 k a b] at this
    exact this
theorem s_bey' {σ : Sg} {n fl : Nat} {bv : Nat → Int32} {wh : Nat → Int} (w : Int32) (hC : ShC σ n fl) (hL : Lim σ n fl) (hs : StC σ n fl bv wh) :
    Ok (DX5_setBeyond 36 w σ) (fun x υ => Fr (fF []) (fA [40, 45]) σ υ ∧ x.toInt = bS (aI σ 39) (svl σ) (sfc σ) w bv (spl σ) fl n ∧
      StC υ n fl (upB (BB (aI σ 39) (svl σ) (sfc σ) w bv (spl σ) fl n) w bv) wh ∧ (∀ k, fl ≤ k → k < n → (aI υ 45 k = 0 ↔ BB (aI σ 39) (svl σ) (sfc σ) w bv (spl σ) fl n k = false)) ∧ ∀ k, k < fl → aI υ 40 k = aI σ 40 k) := by
  have hF : FS (sfc σ) (aI σ 40) fl n = FS (sfc σ) bv fl n := FS_congr (fun _ _ _ => rfl) (fun k a b => (hs k a b).1)
  have hb : ∀ k, fl ≤ k → k < n → beyB (aI σ 39) (svl σ) (sfc σ) w (aI σ 40) (spl σ) (FS (sfc σ) (aI σ 40) fl n) k = BB (aI σ 39) (svl σ) (sfc σ) w bv (spl σ) fl n k := by
    intro k a b
    rw [hF]
    exact beyB_congr rfl rfl rfl (hs k a b).1
  refine (s_bey w hC hL).mono (fun x υ hq => ⟨hq.1, ?_, fun k a b => ⟨?_, ?_, ?_, (hs k a b).2.2.2⟩, fun k a b => ?_, hq.2.2.2⟩)
  · rw [hq.2.1]
    exact bS_congr hC.2.2.2.1 (fun _ _ _ => rfl) (fun _ _ _ => rfl) (fun _ _ _ => rfl) (fun k a b => (hs k a b).1)
  · rw [(hq.2.2.1 k a b).2, hb k a b, (hs k a b).1]
    rfl
  · rw [hq.1.aI 43 rfl k]
    exact (hs k a b).2.1
  · rw [hq.1.aJ 44 rfl k]
    exact (hs k a b).2.2.1
  · rw [(hq.2.2.1 k a b).1, hb k a b]
    cases BB (aI σ 39) (svl σ) (sfc σ) w bv (spl σ) fl n k <;> simp
/-- the numbers while sharing goes on -/
def InN (n fl : Nat) (bv : Nat → Int32) (wh : Nat → Int) (pool P0 : Int) : Prop := (∀ k, fl ≤ k → k < n → bv k = 0 → wh k = 0) ∧ pool = P0 - sI wh fl (n - fl)
theorem in_up {n fl : Nat} {bv : Nat → Int32} {wh vl : Nat → Int} {pool P0 : Int} {B : Nat → Bool} {w : Int32} (h : InN n fl bv wh pool P0) (hw : w ≠ 0) (hB : ∀ k, fl ≤ k → k < n → B k = true → bv k = 0) :
    InN n fl (upB B w bv) (upW B vl wh) (pool - sI (fun k => if B k then vl k else 0) fl (n - fl)) P0 := by
  refine ⟨fun k a b hz => ?_, ?_⟩
  · unfold upB at hz
    unfold upW
    cases hk : B k with
    | true => rw [hk] at hz; exact absurd hz hw
    | false => rw [hk] at hz; exact h.1 k a b hz
  · have : sI (upW B vl wh) fl (n - fl) = sI (fun k => wh k + (if B k then vl k else 0)) fl (n - fl) := by
      refine sI_congr _ _ (fun k a b => ?_)
      unfold upW
      cases hk : B k with
      | true => rw [h.1 k a (by omega) (hB k a (by omega) hk)]; simp
      | false => simp
    rw [this, sI_add, h.2]
    omega
theorem beyB_open {kd : Nat → Int32} {vl fc : Nat → Int} {w : Int32} {bv : Nat → Int32} {pool F : Int} {k : Nat} (h : beyB kd vl fc w bv pool F k = true) : bv k = 0 ∧ kd k = w := by
  unfold beyB at h
  simp only [Bool.and_eq_true, decide_eq_true_eq] at h
  exact h.1
/-- all is shared out: as r says -/
def RfS (σ : Sg) (n fl : Nat) (P0 : Int) (r : RT) : Prop := FiS σ n fl r.1 r.2.1 r.2.2.1 r.2.2.2.1 ∧ spl σ = P0 - sI (fun k => r.2.1 k + r.2.2.1 k / r.2.2.2.1) fl (n - fl) ∧ gI σ 36 16 = nI r.2.2.2.2
theorem bS_zero {kd : Nat → Int32} {vl fc : Nat → Int} {w : Int32} {bv : Nat → Int32} {pool : Int} {fl n : Nat} (h0 : ∀ k, fl ≤ k → k < n → 0 ≤ vl k) (h1 : ∀ k, fl ≤ k → k < n → kd k = w → 1 ≤ vl k) (h : bS kd vl fc w bv pool fl n = 0) : ∀ k, fl ≤ k → k < n → BB kd vl fc w bv pool fl n k = false := by
  intro k a b
  have := sI_pos (n - fl) fl (f := fun k => if beyB kd vl fc w bv pool (FS fc bv fl n) k then vl k else 0) (fun k a b => by have := h0 k a (by omega); exact ite_nn this) h k a (by omega)
  cases hk : BB kd vl fc w bv pool fl n k with
  | false => rfl
  | true =>
    have h2 := h1 k a b (beyB_open hk).2
    rw [if_pos hk] at this
    omega
theorem bS_nn {kd : Nat → Int32} {vl fc : Nat → Int} {w : Int32} {bv : Nat → Int32} {pool : Int} {fl n : Nat} (h0 : ∀ k, fl ≤ k → k < n → 0 ≤ vl k) : 0 ≤ bS kd vl fc w bv pool fl n := by
  have := sI_le (f := fun _ => 0) (g := fun k => if beyB kd vl fc w bv pool (FS fc bv fl n) k then vl k else 0) (n - fl) fl (fun k a b => by have := h0 k a (by omega); exact ite_nn this)
  rw [sI_zero (n - fl) fl (fun _ _ _ => rfl)] at this
  exact this
theorem Lim.fr {σ τ : Sg} {n fl : Nat} {l : List (Nat × Nat)} {m : List Nat} (h : Lim σ n fl) (hf : Fr (fF l) (fA m) σ τ) (h1 : fA m 41 = false) (h2 : fA m 42 = false) (h3 : 0 ≤ spl τ ∧ spl τ ≤ 9999999) : Lim τ n fl :=
  ⟨fun k a b => by rw [hf.aJ 41 h1 k, hf.aJ 42 h2 k]; exact h.1 k a b, h3⟩
/-- amounts of leasts and mosts are no less than one -/
def Li1 (σ : Sg) (n fl : Nat) : Prop := ∀ k, fl ≤ k → k < n → (aI σ 39 k = 3 ∨ aI σ 39 k = 4) → 1 ≤ svl σ k
theorem Li1.fr {σ τ : Sg} {n fl : Nat} {l : List (Nat × Nat)} {m : List Nat} (h : Li1 σ n fl) (hf : Fr (fF l) (fA m) σ τ) (h1 : fA m 41 = false) (h2 : fA m 39 = false) : Li1 τ n fl :=
  fun k a b c => by
    rw [hf.aI 39 h2 k] at c
    show 1 ≤ (aJ τ 41 k).toInt
    rw [hf.aJ 41 h1 k]
    exact h k a b c
theorem s_least2 {n fl : Nat} {P0 : Int} : ∀ (d i m rn : Nat) (τ : Sg) (bv : Nat → Int32) (wh : Nat → Int), i + d = 8 → d < m → ShC τ n fl → Lim τ n fl → Li1 τ n fl → StC τ n fl bv wh → InN n fl bv wh (spl τ) P0 → gI τ 36 16 = nI rn →
    Ok (DX5_raiseToLeasts_2 m 36 (nI i) τ) (fun o υ => Fr (fF [(36, 15), (36, 16)]) (fA [40, 43, 44, 45]) τ υ ∧ (∀ k, k < fl → aI υ 43 k = aI τ 43 k ∧ aI υ 40 k = aI τ 40 k) ∧
      ((o = 1 ∧ RfS υ n fl P0 (lsF (aI τ 39) (svl τ) (sfc τ) fl n d bv wh (spl τ) rn)) ∨
       (o = 0 ∧ ∃ bv' wh' rn', StC υ n fl bv' wh' ∧ InN n fl bv' wh' (spl υ) P0 ∧ gI υ 36 16 = nI rn' ∧ 0 ≤ spl υ ∧ spl υ ≤ 9999999 ∧ lsF (aI τ 39) (svl τ) (sfc τ) fl n d bv wh (spl τ) rn = moF (aI τ 39) (svl τ) (sfc τ) fl n 8 bv' wh' (spl υ) rn'))) := by
  intro d
  induction d with
  | zero =>
    intro i m rn τ bv wh hi hm hC hL h1 hs hn hr
    obtain ⟨m, rfl⟩ : ∃ k, m = k + 1 := ⟨m - 1, by omega⟩
    refine ⟨0, τ, ?_, Fr.rf, fun _ _ => ⟨rfl, rfl⟩, Or.inr ⟨rfl, bv, wh, rn, hs, hn, hr, hL.2.1, hL.2.2, rfl⟩⟩
    rw [DX5_raiseToLeasts_2, DX5_raiseToLeasts_62]
    simp (disch := first | assumption | omega) [ckO, ckI, ckZ, ckJ, ckG, ckR, ckL, ckV, ck01, chk_true, gI_pI, gJ_pI, gR_pI, aI_pI, aJ_pI, aG_pI, gN_pI, gF_pI, gM_pI, gZ_pI, tl_pI, gI_pJ, gJ_pJ, gR_pJ, aI_pJ, aJ_pJ, aG_pJ, gN_pJ, gF_pJ, gM_pJ, gZ_pJ, tl_pJ, gI_pR, gJ_pR, gR_pR, aI_pR, aJ_pR, aG_pR, gN_pR, gF_pR, gM_pR, gZ_pR, tl_pR, gI_wI, gJ_wI, gR_wI, aI_wI, aJ_wI, aG_wI, gN_wI, gF_wI, gM_wI, gZ_wI, tl_wI, gI_wJ, gJ_wJ, gR_wJ, aI_wJ, aJ_wJ, aG_wJ, gN_wJ, gF_wJ, gM_wJ, gZ_wJ, tl_wJ, gI_wG, gJ_wG, gR_wG, aI_wG, aJ_wG, aG_wG, gN_wG, gF_wG, gM_wG, gZ_wG, tl_wG, gS_pI, gS_pJ, gS_pR, gS_wI, gS_wJ, gS_wG, fr_25_0, fr_26_0, fr_26_1, fr_26_2, fr_26_3, fr_26_4, fr_26_5, fr_26_6, fr_26_7, fr_26_8, fr_36_6, fr_36_7, fr_36_8, fr_36_9, fr_36_10, fr_36_11, fr_36_12, fr_36_13, fr_36_14, fr_46_0, fr_46_1, fr_1_0, fr_1_4, fr_1_5, fr_1_6, fr_1_7, fr_1_8, fr_1_9, fr_b_10, fr_b_11, fr_b_12, fr_b_13, fr_b_14, fr_b_15, fr_b_16, fr_b_17, fr_b_18, fr_b_19, fin_pI, fin_pJ, fin_wI, fin_wJ, fin_wG, sh_b_1, lt_b_1, sh_b_2, lt_b_2, sh_b_3, lt_b_3, sh_b_4, lt_b_4, sh_b_5, lt_b_5, sh_b_6, lt_b_6, sh_b_7, lt_b_7, sh_b_8, lt_b_8, sh_b_9, lt_b_9, sh_b_10, lt_b_10, sh_b, lt_b, nz_b, finN, sh_1, sh_2, sh_25, sh_26, sh_27, sh_28, sh_29, sh_30, sh_31, sh_32, sh_33, sh_34, sh_35, sh_36, sh_37, sh_38, sh_39, sh_40, sh_41, sh_42, sh_43, sh_44, sh_45, sh_46, sh_47, sh_48, sh_49, sh_50, mul_nI_2, mul_nI_3, mul_nI_4, mul_nI_6, mul_nI_8, mul_nI_10, mul_nI_11, mul_nI_12, mul_nI_27, mul_nI_36, mul_nI_242, add_nI_0, dda_nI_0, add_nI_1, dda_nI_1, add_nI_2, dda_nI_2, add_nI_3, dda_nI_3, add_nI_4, dda_nI_4, add_nI_5, dda_nI_5, add_nI_6, dda_nI_6, add_nI_8, dda_nI_8, add_nI_12, dda_nI_12, add_nI_64, dda_nI_64, add_nI_128, dda_nI_128, add_nI_192, dda_nI_192, add_nI_228, dda_nI_228, add_nI_234, dda_nI_234, add_nI_242, dda_nI_242, sub_nI_1, sub_nI_2, sub_nI_20, sub_nI_242, inb_0, ixl_0, inb_1, ixl_1, inb_2, ixl_2, inb_3, ixl_3, inb_4, ixl_4, inb_5, ixl_5, inb_6, ixl_6, inb_7, ixl_7, inb_8, ixl_8, inb_9, ixl_9, inb_10, ixl_10, inb_11, ixl_11, nI_add, pk_mul, ixn, inbn, le_l0, l0_le, lt_l0, l0_lt, eq_l0, l0_eq, le_l1, l1_le, lt_l1, l1_lt, eq_l1, l1_eq, le_l2, l2_le, lt_l2, l2_lt, eq_l2, l2_eq, le_l3, l3_le, lt_l3, l3_lt, eq_l3, l3_eq, le_l4, l4_le, lt_l4, l4_lt, eq_l4, l4_eq, le_l5, l5_le, lt_l5, l5_lt, eq_l5, l5_eq, le_l6, l6_le, lt_l6, l6_lt, eq_l6, l6_eq, le_l8, l8_le, lt_l8, l8_lt, eq_l8, l8_eq, le_l9, l9_le, lt_l9, l9_lt, eq_l9, l9_eq, le_l10, l10_le, lt_l10, l10_lt, eq_l10, l10_eq, le_l11, l11_le, lt_l11, l11_lt, eq_l11, l11_eq, le_l12, l12_le, lt_l12, l12_lt, eq_l12, l12_eq, le_l14, l14_le, lt_l14, l14_lt, eq_l14, l14_eq, le_l16, l16_le, lt_l16, l16_lt, eq_l16, l16_eq, le_l20, l20_le, lt_l20, l20_lt, eq_l20, l20_eq, le_l24, l24_le, lt_l24, l24_lt, eq_l24, l24_eq, le_l64, l64_le, lt_l64, l64_lt, eq_l64, l64_eq, le_l72, l72_le, lt_l72, l72_lt, eq_l72, l72_eq, le_l242, l242_le, lt_l242, l242_lt, eq_l242, l242_eq, le_l1180, l1180_le, lt_l1180, l1180_lt, eq_l1180, l1180_eq, le_l1200, l1200_le, lt_l1200, l1200_lt, eq_l1200, l1200_eq, le_l3388, l3388_le, lt_l3388, l3388_lt, eq_l3388, l3388_eq, le_l200000, l200000_le, lt_l200000, l200000_lt, eq_l200000, l200000_eq, le_l1000000, l1000000_le, lt_l1000000, l1000000_lt, eq_l1000000, l1000000_eq, le_nI, lt_nI, eq_nI, show 8 ≤ i by omega]
  | succ d ih =>
    intro i m rn τ bv wh hi hm hC hL h1 hs hn hr
    obtain ⟨m, rfl⟩ : ∃ k, m = k + 1 := ⟨m - 1, by omega⟩
    have hF := hC.1
    have v0 : ∀ k, fl ≤ k → k < n → 0 ≤ svl τ k := fun k a b => (hL.1 k a b).1.1
    rw [DX5_raiseToLeasts_2]
    simp (disch := first | assumption | omega) only [ok_chk, ckO, ckI, ckZ, ckJ, ckG, ckR, ckL, ckV, gI_pI, gJ_pI, gR_pI, aI_pI, aJ_pI, aG_pI, gN_pI, gF_pI, gM_pI, gZ_pI, tl_pI, gI_pJ, gJ_pJ, gR_pJ, aI_pJ, aJ_pJ, aG_pJ, gN_pJ, gF_pJ, gM_pJ, gZ_pJ, tl_pJ, gI_pR, gJ_pR, gR_pR, aI_pR, aJ_pR, aG_pR, gN_pR, gF_pR, gM_pR, gZ_pR, tl_pR, gI_wI, gJ_wI, gR_wI, aI_wI, aJ_wI, aG_wI, gN_wI, gF_wI, gM_wI, gZ_wI, tl_wI, gI_wJ, gJ_wJ, gR_wJ, aI_wJ, aJ_wJ, aG_wJ, gN_wJ, gF_wJ, gM_wJ, gZ_wJ, tl_wJ, gI_wG, gJ_wG, gR_wG, aI_wG, aJ_wG, aG_wG, gN_wG, gF_wG, gM_wG, gZ_wG, tl_wG, gS_pI, gS_pJ, gS_pR, gS_wI, gS_wJ, gS_wG, fr_25_0, fr_26_0, fr_26_1, fr_26_2, fr_26_3, fr_26_4, fr_26_5, fr_26_6, fr_26_7, fr_26_8, fr_36_6, fr_36_7, fr_36_8, fr_36_9, fr_36_10, fr_36_11, fr_36_12, fr_36_13, fr_36_14, fr_46_0, fr_46_1, fr_1_0, fr_1_4, fr_1_5, fr_1_6, fr_1_7, fr_1_8, fr_1_9, fr_b_10, fr_b_11, fr_b_12, fr_b_13, fr_b_14, fr_b_15, fr_b_16, fr_b_17, fr_b_18, fr_b_19, fin_pI, fin_pJ, fin_wI, fin_wJ, fin_wG, sh_b_1, lt_b_1, sh_b_2, lt_b_2, sh_b_3, lt_b_3, sh_b_4, lt_b_4, sh_b_5, lt_b_5, sh_b_6, lt_b_6, sh_b_7, lt_b_7, sh_b_8, lt_b_8, sh_b_9, lt_b_9, sh_b_10, lt_b_10, sh_b, lt_b, nz_b, finN, sh_1, sh_2, sh_25, sh_26, sh_27, sh_28, sh_29, sh_30, sh_31, sh_32, sh_33, sh_34, sh_35, sh_36, sh_37, sh_38, sh_39, sh_40, sh_41, sh_42, sh_43, sh_44, sh_45, sh_46, sh_47, sh_48, sh_49, sh_50, mul_nI_2, mul_nI_3, mul_nI_4, mul_nI_6, mul_nI_8, mul_nI_10, mul_nI_11, mul_nI_12, mul_nI_27, mul_nI_36, mul_nI_242, add_nI_0, dda_nI_0, add_nI_1, dda_nI_1, add_nI_2, dda_nI_2, add_nI_3, dda_nI_3, add_nI_4, dda_nI_4, add_nI_5, dda_nI_5, add_nI_6, dda_nI_6, add_nI_8, dda_nI_8, add_nI_12, dda_nI_12, add_nI_64, dda_nI_64, add_nI_128, dda_nI_128, add_nI_192, dda_nI_192, add_nI_228, dda_nI_228, add_nI_234, dda_nI_234, add_nI_242, dda_nI_242, sub_nI_1, sub_nI_2, sub_nI_20, sub_nI_242, inb_0, ixl_0, inb_1, ixl_1, inb_2, ixl_2, inb_3, ixl_3, inb_4, ixl_4, inb_5, ixl_5, inb_6, ixl_6, inb_7, ixl_7, inb_8, ixl_8, inb_9, ixl_9, inb_10, ixl_10, inb_11, ixl_11, nI_add, pk_mul, ixn, inbn, le_l0, l0_le, lt_l0, l0_lt, eq_l0, l0_eq, le_l1, l1_le, lt_l1, l1_lt, eq_l1, l1_eq, le_l2, l2_le, lt_l2, l2_lt, eq_l2, l2_eq, le_l3, l3_le, lt_l3, l3_lt, eq_l3, l3_eq, le_l4, l4_le, lt_l4, l4_lt, eq_l4, l4_eq, le_l5, l5_le, lt_l5, l5_lt, eq_l5, l5_eq, le_l6, l6_le, lt_l6, l6_lt, eq_l6, l6_eq, le_l8, l8_le, lt_l8, l8_lt, eq_l8, l8_eq, le_l9, l9_le, lt_l9, l9_lt, eq_l9, l9_eq, le_l10, l10_le, lt_l10, l10_lt, eq_l10, l10_eq, le_l11, l11_le, lt_l11, l11_lt, eq_l11, l11_eq, le_l12, l12_le, lt_l12, l12_lt, eq_l12, l12_eq, le_l14, l14_le, lt_l14, l14_lt, eq_l14, l14_eq, le_l16, l16_le, lt_l16, l16_lt, eq_l16, l16_eq, le_l20, l20_le, lt_l20, l20_lt, eq_l20, l20_eq, le_l24, l24_le, lt_l24, l24_lt, eq_l24, l24_eq, le_l64, l64_le, lt_l64, l64_lt, eq_l64, l64_eq, le_l72, l72_le, lt_l72, l72_lt, eq_l72, l72_eq, le_l242, l242_le, lt_l242, l242_lt, eq_l242, l242_eq, le_l1180, l1180_le, lt_l1180, l1180_lt, eq_l1180, l1180_eq, le_l1200, l1200_le, lt_l1200, l1200_lt, eq_l1200, l1200_eq, le_l3388, l3388_le, lt_l3388, l3388_lt, eq_l3388, l3388_eq, le_l200000, l200000_le, lt_l200000, l200000_lt, eq_l200000, l200000_eq, le_l1000000, l1000000_le, lt_l1000000, l1000000_lt, eq_l1000000, l1000000_eq, le_nI, lt_nI, eq_nI, decide_true, decide_eq_true_eq, Bool.and_true, Bool.true_and, and_true, true_and, if_true, if_false, ite_true, ite_false, decide_false, ne_eq, not_false_eq_true, not_true_eq_false, reduceCtorEq, Nat.reduceLT, Nat.reduceEqDiff, Nat.reduceMul, Nat.reduceAdd, show ¬ 8 ≤ i by omega]
    refine ok_bnd (s_bey' 3 hC hL hs) (fun x υ hq => ?_)
    obtain ⟨q1, q2, q3, q4, q5⟩ := hq
    have hCu := hC.fr q1 (by decide) rfl rfl
    have hFu := hCu.1
    by_cases hx : x = 0
    · rw [if_pos hx]
      rw [hx, l_0] at q2
      have hz := bS_zero v0 (fun k a b c => h1 k a b (Or.inl c)) q2.symm
      unfold DX5_raiseToLeasts_20
      have ep : spl υ = spl τ := by show (gJ υ 36 15).toInt = _; rw [q1.J 36 15 rfl]
      refine ⟨0, υ, by simp [ck01, chk_true], q1.up rfl rfl, fun k a => ⟨q1.aI 43 rfl k, q5 k a⟩, Or.inr ⟨rfl, bv, wh, rn, q3.cg (fun k a b => by unfold upB; rw [hz k a b]; rfl) (fun _ _ _ => rfl), ?_, (q1.I 36 16 rfl).trans hr, ?_, ?_, ?_⟩⟩
      · rw [ep]; exact hn
      · rw [ep]; exact hL.2.1
      · rw [ep]; exact hL.2.2
      · rw [ep, lsF, if_pos q2.symm]
    · rw [if_neg hx]
      have hx0 : ¬ bS (aI τ 39) (svl τ) (sfc τ) 3 bv (spl τ) fl n = 0 := fun z => hx (l_inj (by rw [q2, z, l_0]))
      have e16 : gI υ 36 16 = nI rn := (q1.I 36 16 rfl).trans hr
      have ep : spl υ = spl τ := by show (gJ υ 36 15).toInt = _; rw [q1.J 36 15 rfl]
      have f1 : Fr (fF [(36, 16)]) (fA [40, 45]) τ (pI υ 36 16 (nI (rn + 1))) := (q1.up rfl rfl).pI 36 16 _ rfl
      have f2 : Fr (fF [(36, 16)]) (fA []) υ (pI υ 36 16 (nI (rn + 1))) := Fr.rf.pI 36 16 _ rfl
      have hC2 := hC.fr f1 (by decide) rfl rfl
      have hF2 := hC2.1
      have ep2 : spl (pI υ 36 16 (nI (rn + 1))) = spl τ := ep
      have hL2 : Lim (pI υ 36 16 (nI (rn + 1))) n fl := hL.fr f1 rfl rfl (by rw [ep2]; exact hL.2)
      have ej1 : svl (pI υ 36 16 (nI (rn + 1))) = svl τ := by funext k; show (aJ υ 41 k).toInt = _; rw [q1.aJ 41 rfl k]
      have ej2 : sfc (pI υ 36 16 (nI (rn + 1))) = sfc τ := by funext k; show (aJ υ 42 k).toInt = _; rw [q1.aJ 42 rfl k]
      have ej3 : aI (pI υ 36 16 (nI (rn + 1))) 39 = aI τ 39 := by funext k; exact q1.aI 39 rfl k
      have q3' : StC (pI υ 36 16 (nI (rn + 1))) n fl (upB (BB (aI τ 39) (svl τ) (sfc τ) 3 bv (spl τ) fl n) 3 bv) wh := q3.fr f2 rfl rfl rfl
      have q4' : ∀ k, fl ≤ k → k < n → (aI (pI υ 36 16 (nI (rn + 1))) 45 k = 0 ↔ BB (aI τ 39) (svl τ) (sfc τ) 3 bv (spl τ) fl n k = false) := q4
      have hBo : ∀ k, fl ≤ k → k < n → BB (aI τ 39) (svl τ) (sfc τ) 3 bv (spl τ) fl n k = true → bv k = 0 := fun k _ _ hk => (beyB_open hk).1
      have x0 : 0 ≤ x.toInt := by rw [q2]; exact bS_nn v0
      simp (disch := first | assumption | omega) only [ok_chk, ok_let, ckO, ckI, ckZ, ckJ, ckG, ckR, ckL, ckV, gI_pI, gJ_pI, gR_pI, aI_pI, aJ_pI, aG_pI, gN_pI, gF_pI, gM_pI, gZ_pI, tl_pI, gI_pJ, gJ_pJ, gR_pJ, aI_pJ, aJ_pJ, aG_pJ, gN_pJ, gF_pJ, gM_pJ, gZ_pJ, tl_pJ, gI_pR, gJ_pR, gR_pR, aI_pR, aJ_pR, aG_pR, gN_pR, gF_pR, gM_pR, gZ_pR, tl_pR, gI_wI, gJ_wI, gR_wI, aI_wI, aJ_wI, aG_wI, gN_wI, gF_wI, gM_wI, gZ_wI, tl_wI, gI_wJ, gJ_wJ, gR_wJ, aI_wJ, aJ_wJ, aG_wJ, gN_wJ, gF_wJ, gM_wJ, gZ_wJ, tl_wJ, gI_wG, gJ_wG, gR_wG, aI_wG, aJ_wG, aG_wG, gN_wG, gF_wG, gM_wG, gZ_wG, tl_wG, gS_pI, gS_pJ, gS_pR, gS_wI, gS_wJ, gS_wG, fr_25_0, fr_26_0, fr_26_1, fr_26_2, fr_26_3, fr_26_4, fr_26_5, fr_26_6, fr_26_7, fr_26_8, fr_36_6, fr_36_7, fr_36_8, fr_36_9, fr_36_10, fr_36_11, fr_36_12, fr_36_13, fr_36_14, fr_46_0, fr_46_1, fr_1_0, fr_1_4, fr_1_5, fr_1_6, fr_1_7, fr_1_8, fr_1_9, fr_b_10, fr_b_11, fr_b_12, fr_b_13, fr_b_14, fr_b_15, fr_b_16, fr_b_17, fr_b_18, fr_b_19, fin_pI, fin_pJ, fin_wI, fin_wJ, fin_wG, sh_b_1, lt_b_1, sh_b_2, lt_b_2, sh_b_3, lt_b_3, sh_b_4, lt_b_4, sh_b_5, lt_b_5, sh_b_6, lt_b_6, sh_b_7, lt_b_7, sh_b_8, lt_b_8, sh_b_9, lt_b_9, sh_b_10, lt_b_10, sh_b, lt_b, nz_b, finN, sh_1, sh_2, sh_25, sh_26, sh_27, sh_28, sh_29, sh_30, sh_31, sh_32, sh_33, sh_34, sh_35, sh_36, sh_37, sh_38, sh_39, sh_40, sh_41, sh_42, sh_43, sh_44, sh_45, sh_46, sh_47, sh_48, sh_49, sh_50, mul_nI_2, mul_nI_3, mul_nI_4, mul_nI_6, mul_nI_8, mul_nI_10, mul_nI_11, mul_nI_12, mul_nI_27, mul_nI_36, mul_nI_242, add_nI_0, dda_nI_0, add_nI_1, dda_nI_1, add_nI_2, dda_nI_2, add_nI_3, dda_nI_3, add_nI_4, dda_nI_4, add_nI_5, dda_nI_5, add_nI_6, dda_nI_6, add_nI_8, dda_nI_8, add_nI_12, dda_nI_12, add_nI_64, dda_nI_64, add_nI_128, dda_nI_128, add_nI_192, dda_nI_192, add_nI_228, dda_nI_228, add_nI_234, dda_nI_234, add_nI_242, dda_nI_242, sub_nI_1, sub_nI_2, sub_nI_20, sub_nI_242, inb_0, ixl_0, inb_1, ixl_1, inb_2, ixl_2, inb_3, ixl_3, inb_4, ixl_4, inb_5, ixl_5, inb_6, ixl_6, inb_7, ixl_7, inb_8, ixl_8, inb_9, ixl_9, inb_10, ixl_10, inb_11, ixl_11, nI_add, pk_mul, ixn, inbn, le_l0, l0_le, lt_l0, l0_lt, eq_l0, l0_eq, le_l1, l1_le, lt_l1, l1_lt, eq_l1, l1_eq, le_l2, l2_le, lt_l2, l2_lt, eq_l2, l2_eq, le_l3, l3_le, lt_l3, l3_lt, eq_l3, l3_eq, le_l4, l4_le, lt_l4, l4_lt, eq_l4, l4_eq, le_l5, l5_le, lt_l5, l5_lt, eq_l5, l5_eq, le_l6, l6_le, lt_l6, l6_lt, eq_l6, l6_eq, le_l8, l8_le, lt_l8, l8_lt, eq_l8, l8_eq, le_l9, l9_le, lt_l9, l9_lt, eq_l9, l9_eq, le_l10, l10_le, lt_l10, l10_lt, eq_l10, l10_eq, le_l11, l11_le, lt_l11, l11_lt, eq_l11, l11_eq, le_l12, l12_le, lt_l12, l12_lt, eq_l12, l12_eq, le_l14, l14_le, lt_l14, l14_lt, eq_l14, l14_eq, le_l16, l16_le, lt_l16, l16_lt, eq_l16, l16_eq, le_l20, l20_le, lt_l20, l20_lt, eq_l20, l20_eq, le_l24, l24_le, lt_l24, l24_lt, eq_l24, l24_eq, le_l64, l64_le, lt_l64, l64_lt, eq_l64, l64_eq, le_l72, l72_le, lt_l72, l72_lt, eq_l72, l72_eq, le_l242, l242_le, lt_l242, l242_lt, eq_l242, l242_eq, le_l1180, l1180_le, lt_l1180, l1180_lt, eq_l1180, l1180_eq, le_l1200, l1200_le, lt_l1200, l1200_lt, eq_l1200, l1200_eq, le_l3388, l3388_le, lt_l3388, l3388_lt, eq_l3388, l3388_eq, le_l200000, l200000_le, lt_l200000, l200000_lt, eq_l200000, l200000_eq, le_l1000000, l1000000_le, lt_l1000000, l1000000_lt, eq_l1000000, l1000000_eq, le_nI, lt_nI, eq_nI, decide_true, decide_eq_true_eq, Bool.and_true, Bool.true_and, and_true, true_and, if_true, if_false, ite_true, ite_false, decide_false, ne_eq, not_false_eq_true, not_true_eq_false, reduceCtorEq, Nat.reduceLT, Nat.reduceEqDiff, Nat.reduceMul, Nat.reduceAdd, e16]
      have hpx : (x ≤ gJ υ 36 15) ↔ bS (aI τ 39) (svl τ) (sfc τ) 3 bv (spl τ) fl n ≤ spl τ := by
        rw [l_le, q2, ← ep]
      by_cases hle : x ≤ gJ υ 36 15
      · rw [if_pos hle, chk_true]
        have hle' := hpx.mp hle
        refine ok_bnd (s_giveS (s := x) hC2 hL2 q3' q4' x0 (by rw [q2, ep2]; exact hle')) (fun _ υ2 hg => ?_)
        obtain ⟨g1, g2, g3, g4⟩ := hg
        have f3 : Fr (fF [(36, 15), (36, 16)]) (fA [40, 43, 44, 45]) τ υ2 := (f1.up rfl rfl).trans (g1.up rfl rfl)
        have hp2 : spl υ2 = spl τ - bS (aI τ 39) (svl τ) (sfc τ) 3 bv (spl τ) fl n := by rw [g2, ep2, q2]
        have hlim := hL.2
        have e39 : aI υ2 39 = aI τ 39 := by funext k; exact f3.aI 39 rfl k
        have e41 : svl υ2 = svl τ := by funext k; show (aJ υ2 41 k).toInt = _; rw [f3.aJ 41 rfl k]
        have e42 : sfc υ2 = sfc τ := by funext k; show (aJ υ2 42 k).toInt = _; rw [f3.aJ 42 rfl k]
        rw [ej1] at g3
        have := ih (i + 1) m (rn + 1) υ2 _ _ (by omega) (by omega) (hC2.fr g1 (by decide) rfl rfl) (hL2.fr g1 rfl rfl (by rw [hp2]; have := x0; rw [q2] at this; unfold spl at *; omega)) (h1.fr f3 rfl rfl) g3
          (by rw [hp2]; exact in_up (vl := svl τ) hn (by decide) hBo) ((g1.I 36 16 rfl).trans (by simp [gI_pI, gJ_pI, gR_pI, aI_pI, aJ_pI, aG_pI, gN_pI, gF_pI, gM_pI, gZ_pI, tl_pI, gI_pJ, gJ_pJ, gR_pJ, aI_pJ, aJ_pJ, aG_pJ, gN_pJ, gF_pJ, gM_pJ, gZ_pJ, tl_pJ, gI_pR, gJ_pR, gR_pR, aI_pR, aJ_pR, aG_pR, gN_pR, gF_pR, gM_pR, gZ_pR, tl_pR, gI_wI, gJ_wI, gR_wI, aI_wI, aJ_wI, aG_wI, gN_wI, gF_wI, gM_wI, gZ_wI, tl_wI, gI_wJ, gJ_wJ, gR_wJ, aI_wJ, aJ_wJ, aG_wJ, gN_wJ, gF_wJ, gM_wJ, gZ_wJ, tl_wJ, gI_wG, gJ_wG, gR_wG, aI_wG, aJ_wG, aG_wG, gN_wG, gF_wG, gM_wG, gZ_wG, tl_wG, gS_pI, gS_pJ, gS_pR, gS_wI, gS_wJ, gS_wG, fr_25_0, fr_26_0, fr_26_1, fr_26_2, fr_26_3, fr_26_4, fr_26_5, fr_26_6, fr_26_7, fr_26_8, fr_36_6, fr_36_7, fr_36_8, fr_36_9, fr_36_10, fr_36_11, fr_36_12, fr_36_13, fr_36_14, fr_46_0, fr_46_1, fr_1_0, fr_1_4, fr_1_5, fr_1_6, fr_1_7, fr_1_8, fr_1_9, fr_b_10, fr_b_11, fr_b_12, fr_b_13, fr_b_14, fr_b_15, fr_b_16, fr_b_17, fr_b_18, fr_b_19, fin_pI, fin_pJ, fin_wI, fin_wJ, fin_wG, sh_b_1, lt_b_1, sh_b_2, lt_b_2, sh_b_3, lt_b_3, sh_b_4, lt_b_4, sh_b_5, lt_b_5, sh_b_6, lt_b_6, sh_b_7, lt_b_7, sh_b_8, lt_b_8, sh_b_9, lt_b_9, sh_b_10, lt_b_10, sh_b, lt_b, nz_b, finN]))
        rw [e39, e41, e42, hp2] at this
        refine this.mono (fun o ω hw => ⟨f3.trans hw.1, fun k a => ⟨(hw.2.1 k a).1.trans ((g4 k a).trans (q1.aI 43 rfl k)), (hw.2.1 k a).2.trans ((g1.aI 40 rfl k).trans (q5 k a))⟩, ?_⟩)
        rw [lsF, if_neg hx0, if_neg (by omega)]
        exact hw.2.2
      · rw [if_neg hle]
        have hlt : spl τ < bS (aI τ 39) (svl τ) (sfc τ) 3 bv (spl τ) fl n := Int.not_le.mp (fun z => hle (hpx.mpr z))
        unfold DX5_raiseToLeasts_41
        simp (disch := first | assumption | omega) only [ok_chk, ok_let, ckO, ckI, ckZ, ckJ, ckG, ckR, ckL, ckV, gI_pI, gJ_pI, gR_pI, aI_pI, aJ_pI, aG_pI, gN_pI, gF_pI, gM_pI, gZ_pI, tl_pI, gI_pJ, gJ_pJ, gR_pJ, aI_pJ, aJ_pJ, aG_pJ, gN_pJ, gF_pJ, gM_pJ, gZ_pJ, tl_pJ, gI_pR, gJ_pR, gR_pR, aI_pR, aJ_pR, aG_pR, gN_pR, gF_pR, gM_pR, gZ_pR, tl_pR, gI_wI, gJ_wI, gR_wI, aI_wI, aJ_wI, aG_wI, gN_wI, gF_wI, gM_wI, gZ_wI, tl_wI, gI_wJ, gJ_wJ, gR_wJ, aI_wJ, aJ_wJ, aG_wJ, gN_wJ, gF_wJ, gM_wJ, gZ_wJ, tl_wJ, gI_wG, gJ_wG, gR_wG, aI_wG, aJ_wG, aG_wG, gN_wG, gF_wG, gM_wG, gZ_wG, tl_wG, gS_pI, gS_pJ, gS_pR, gS_wI, gS_wJ, gS_wG, fr_25_0, fr_26_0, fr_26_1, fr_26_2, fr_26_3, fr_26_4, fr_26_5, fr_26_6, fr_26_7, fr_26_8, fr_36_6, fr_36_7, fr_36_8, fr_36_9, fr_36_10, fr_36_11, fr_36_12, fr_36_13, fr_36_14, fr_46_0, fr_46_1, fr_1_0, fr_1_4, fr_1_5, fr_1_6, fr_1_7, fr_1_8, fr_1_9, fr_b_10, fr_b_11, fr_b_12, fr_b_13, fr_b_14, fr_b_15, fr_b_16, fr_b_17, fr_b_18, fr_b_19, fin_pI, fin_pJ, fin_wI, fin_wJ, fin_wG, sh_b_1, lt_b_1, sh_b_2, lt_b_2, sh_b_3, lt_b_3, sh_b_4, lt_b_4, sh_b_5, lt_b_5, sh_b_6, lt_b_6, sh_b_7, lt_b_7, sh_b_8, lt_b_8, sh_b_9, lt_b_9, sh_b_10, lt_b_10, sh_b, lt_b, nz_b, finN, sh_1, sh_2, sh_25, sh_26, sh_27, sh_28, sh_29, sh_30, sh_31, sh_32, sh_33, sh_34, sh_35, sh_36, sh_37, sh_38, sh_39, sh_40, sh_41, sh_42, sh_43, sh_44, sh_45, sh_46, sh_47, sh_48, sh_49, sh_50, mul_nI_2, mul_nI_3, mul_nI_4, mul_nI_6, mul_nI_8, mul_nI_10, mul_nI_11, mul_nI_12, mul_nI_27, mul_nI_36, mul_nI_242, add_nI_0, dda_nI_0, add_nI_1, dda_nI_1, add_nI_2, dda_nI_2, add_nI_3, dda_nI_3, add_nI_4, dda_nI_4, add_nI_5, dda_nI_5, add_nI_6, dda_nI_6, add_nI_8, dda_nI_8, add_nI_12, dda_nI_12, add_nI_64, dda_nI_64, add_nI_128, dda_nI_128, add_nI_192, dda_nI_192, add_nI_228, dda_nI_228, add_nI_234, dda_nI_234, add_nI_242, dda_nI_242, sub_nI_1, sub_nI_2, sub_nI_20, sub_nI_242, inb_0, ixl_0, inb_1, ixl_1, inb_2, ixl_2, inb_3, ixl_3, inb_4, ixl_4, inb_5, ixl_5, inb_6, ixl_6, inb_7, ixl_7, inb_8, ixl_8, inb_9, ixl_9, inb_10, ixl_10, inb_11, ixl_11, nI_add, pk_mul, ixn, inbn, le_l0, l0_le, lt_l0, l0_lt, eq_l0, l0_eq, le_l1, l1_le, lt_l1, l1_lt, eq_l1, l1_eq, le_l2, l2_le, lt_l2, l2_lt, eq_l2, l2_eq, le_l3, l3_le, lt_l3, l3_lt, eq_l3, l3_eq, le_l4, l4_le, lt_l4, l4_lt, eq_l4, l4_eq, le_l5, l5_le, lt_l5, l5_lt, eq_l5, l5_eq, le_l6, l6_le, lt_l6, l6_lt, eq_l6, l6_eq, le_l8, l8_le, lt_l8, l8_lt, eq_l8, l8_eq, le_l9, l9_le, lt_l9, l9_lt, eq_l9, l9_eq, le_l10, l10_le, lt_l10, l10_lt, eq_l10, l10_eq, le_l11, l11_le, lt_l11, l11_lt, eq_l11, l11_eq, le_l12, l12_le, lt_l12, l12_lt, eq_l12, l12_eq, le_l14, l14_le, lt_l14, l14_lt, eq_l14, l14_eq, le_l16, l16_le, lt_l16, l16_lt, eq_l16, l16_eq, le_l20, l20_le, lt_l20, l20_lt, eq_l20, l20_eq, le_l24, l24_le, lt_l24, l24_lt, eq_l24, l24_eq, le_l64, l64_le, lt_l64, l64_lt, eq_l64, l64_eq, le_l72, l72_le, lt_l72, l72_lt, eq_l72, l72_eq, le_l242, l242_le, lt_l242, l242_lt, eq_l242, l242_eq, le_l1180, l1180_le, lt_l1180, l1180_lt, eq_l1180, l1180_eq, le_l1200, l1200_le, lt_l1200, l1200_lt, eq_l1200, l1200_eq, le_l3388, l3388_le, lt_l3388, l3388_lt, eq_l3388, l3388_eq, le_l200000, l200000_le, lt_l200000, l200000_lt, eq_l200000, l200000_eq, le_l1000000, l1000000_le, lt_l1000000, l1000000_lt, eq_l1000000, l1000000_eq, le_nI, lt_nI, eq_nI, decide_true, decide_eq_true_eq, Bool.and_true, Bool.true_and, and_true, true_and, if_true, if_false, ite_true, ite_false, decide_false, ne_eq, not_false_eq_true, not_true_eq_false, reduceCtorEq, Nat.reduceLT, Nat.reduceEqDiff, Nat.reduceMul, Nat.reduceAdd]
        refine ok_bnd (s_part (a := 41) hC2 rfl (by decide) (by decide) (fun k a b => by have := (hL2.1 k a b).1; omega) hL2.2 q3' q4') (fun _ υ2 hg => ?_)
        obtain ⟨g1, g2, g3, g4⟩ := hg
        refine ⟨1, υ2, by simp [ck01, chk_true], (f1.up rfl rfl).trans (g1.up rfl rfl), fun k a => ⟨(g3 k a).trans (q1.aI 43 rfl k), (g1.aI 40 rfl k).trans (q5 k a)⟩, Or.inl ⟨rfl, ?_⟩⟩
        rw [lsF, if_neg hx0, if_pos hlt]
        refine ⟨?_, ?_, (g1.I 36 16 rfl).trans (by simp [gI_pI, gJ_pI, gR_pI, aI_pI, aJ_pI, aG_pI, gN_pI, gF_pI, gM_pI, gZ_pI, tl_pI, gI_pJ, gJ_pJ, gR_pJ, aI_pJ, aJ_pJ, aG_pJ, gN_pJ, gF_pJ, gM_pJ, gZ_pJ, tl_pJ, gI_pR, gJ_pR, gR_pR, aI_pR, aJ_pR, aG_pR, gN_pR, gF_pR, gM_pR, gZ_pR, tl_pR, gI_wI, gJ_wI, gR_wI, aI_wI, aJ_wI, aG_wI, gN_wI, gF_wI, gM_wI, gZ_wI, tl_wI, gI_wJ, gJ_wJ, gR_wJ, aI_wJ, aJ_wJ, aG_wJ, gN_wJ, gF_wJ, gM_wJ, gZ_wJ, tl_wJ, gI_wG, gJ_wG, gR_wG, aI_wG, aJ_wG, aG_wG, gN_wG, gF_wG, gM_wG, gZ_wG, tl_wG, gS_pI, gS_pJ, gS_pR, gS_wI, gS_wJ, gS_wG, fr_25_0, fr_26_0, fr_26_1, fr_26_2, fr_26_3, fr_26_4, fr_26_5, fr_26_6, fr_26_7, fr_26_8, fr_36_6, fr_36_7, fr_36_8, fr_36_9, fr_36_10, fr_36_11, fr_36_12, fr_36_13, fr_36_14, fr_46_0, fr_46_1, fr_1_0, fr_1_4, fr_1_5, fr_1_6, fr_1_7, fr_1_8, fr_1_9, fr_b_10, fr_b_11, fr_b_12, fr_b_13, fr_b_14, fr_b_15, fr_b_16, fr_b_17, fr_b_18, fr_b_19, fin_pI, fin_pJ, fin_wI, fin_wJ, fin_wG, sh_b_1, lt_b_1, sh_b_2, lt_b_2, sh_b_3, lt_b_3, sh_b_4, lt_b_4, sh_b_5, lt_b_5, sh_b_6, lt_b_6, sh_b_7, lt_b_7, sh_b_8, lt_b_8, sh_b_9, lt_b_9, sh_b_10, lt_b_10, sh_b, lt_b, nz_b, finN])⟩
        · rw [ep2] at g2
          rw [show (fun k => (aJ (pI υ 36 16 (nI (rn + 1))) 41 k).toInt) = svl τ from ej1] at g2
          exact g2
        · rw [ep2] at g4
          rw [show (fun k => (aJ (pI υ 36 16 (nI (rn + 1))) 41 k).toInt) = svl τ from ej1] at g4
          have g4' : spl υ2 = spl τ - sI (fun k => ptB (BB (aI τ 39) (svl τ) (sfc τ) 3 bv (spl τ) fl n) (svl τ) (spl τ) k / bS (aI τ 39) (svl τ) (sfc τ) 3 bv (spl τ) fl n) fl (n - fl) := g4
          show spl υ2 = P0 - sI (fun k => wh k + ptB (BB (aI τ 39) (svl τ) (sfc τ) 3 bv (spl τ) fl n) (svl τ) (spl τ) k / bS (aI τ 39) (svl τ) (sfc τ) 3 bv (spl τ) fl n) fl (n - fl)
          have := hn.2
          rw [sI_add]
          omega

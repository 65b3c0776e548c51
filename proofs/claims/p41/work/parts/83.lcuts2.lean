/-! THE LAW CUTS -/
section
variable {σ : Sg} {f op u w sa n fl : Nat}
theorem CtS.mk {σ0 : Sg} (h0 : FO σ0 f) (hN : gN σ0 = 51) (r0 : gR σ0 f 0 = w) (r2 : gR σ0 f 2 = sa) (aw : AR σ0 4 w n) (as : AR σ0 2 sa n) (ao : AR σ0 3 op n) (ho : ∀ j, j < n → aI σ0 op j = bN (decide (fl ≤ j))) : CtS (mkD σ0 4 n n) f op (2000 + gM σ0) w sa n fl := by
  obtain ⟨f1, f2, f3⟩ := h0
  have m : ∀ {k y}, AR σ0 k y n → AR (mkD σ0 4 n n) k y n := fun {k y} h => by
    obtain ⟨a1, a2, a3, a4⟩ := h
    exact ⟨by rw [gS_mkD, if_neg (by omega)]; exact a1, a2, by rw [gM_mkD]; omega, a4⟩
  have q := ao.2
  refine ⟨⟨by rw [gS_mkD, if_neg (by omega)]; exact f1, f2, by rw [gM_mkD]; omega⟩, by rw [gR_mkD, if_neg (by omega)]; exact r0, by rw [gR_mkD, if_neg (by omega)]; exact r2, m aw, m as, m ao, ⟨by rw [gS_mkD, if_pos rfl], by omega, by rw [gM_mkD]; omega, q.2.2⟩, fun j hj => by rw [aI_mkD, if_neg (by omega)]; exact ho j hj⟩
theorem sI_b2 {g : Nat → Int} {B : Int} (hB : 0 ≤ B) : ∀ (d i : Nat), (∀ k, i ≤ k → k < i + d → 0 ≤ g k ∧ g k ≤ B) → 0 ≤ sI g i d ∧ sI g i d ≤ B * d
  | 0, _, _ => ⟨Int.le_refl _, by show (0 : Int) ≤ B * 0; omega⟩
  | d + 1, i, h => by
    have h1 := h i (Nat.le_refl _) (by omega)
    have h2 := sI_b2 hB d (i + 1) (fun k a b => h k (by omega) (by omega))
    have e : B * ((d + 1 : Nat) : Int) = B * (d : Int) + B := by rw [Int.natCast_add, Int.mul_add]; simp
    unfold sI
    rw [e]
    omega
theorem n_cuts {money : Int64} {P0 : Int} {r : RT} (hf : FO σ f) (hN : gN σ = 51) (r0 : gR σ f 0 = w) (r1 : gR σ f 1 = u) (r2 : gR σ f 2 = sa) (aw : AR σ 4 w n) (au : AR σ 4 u n) (as : AR σ 2 sa n) (ao : AR σ 3 op n) (ho : ∀ j, j < n → aI σ op j = bN (decide (fl ≤ j)))
    (hfl : fl ≤ n) (hP : PrOK fl n P0 r) (hm : money.toInt = P0) (hP2 : P0 ≤ 9999999) (hD : (gJ σ f 4).toInt = r.2.2.2.1) (hwh : ∀ k, fl ≤ k → k < n → (aJ σ w k).toInt = r.2.1 k) (hpt : ∀ k, fl ≤ k → k < n → (aJ σ u k).toInt = r.2.2.1 k) :
    Ok (DX8_cuts f op money σ) (fun _ τ => Fr (fF [(f, 6)]) (fA [sa, 2000 + gM σ]) (mkD σ 4 n n) τ ∧ (gI τ f 6).toInt = lfF r fl n P0 ∧ (∀ k, fl ≤ k → k < n → (aI τ sa k).toInt = shF r fl n (lfF r fl n P0) k) ∧ ∀ k, k < fl → aI τ sa k = aI σ sa k) := by
  obtain ⟨l1, l2, -⟩ := lf_bd hP
  obtain ⟨p1, p2, p3, p4⟩ := hP
  have h8 := aw.2.2.2
  obtain ⟨rs, hrs⟩ : ∃ rs, rs = 2000 + gM σ := ⟨_, rfl⟩
  have hC : CtS (mkD σ 4 n n) f op rs w sa n fl := by rw [hrs]; exact CtS.mk hf hN r0 r2 aw as ao ho
  have hw3 := aw.2.2.1
  have hu3 := au.2.2.1
  have hs3 := as.2.2.1
  have ho3 := ao.2.2.1
  have hf3 := hf.2.2
  have e1 : op ≠ sa := fun z => by
    have a := ao.1
    rw [z, as.1] at a
    exact absurd (congrArg Prod.fst a) (show ¬ (2 : Nat) = 3 by decide)
  have e2 : op ≠ rs := by omega
  have e3 : sa ≠ rs := by omega
  have e4 : w ≠ rs := by omega
  have e5 : u ≠ rs := by omega
  have q0 : ∀ k, fl ≤ k → k < n → 0 ≤ r.2.1 k + r.2.2.1 k / r.2.2.2.1 := fun k a b => by
    have := Int.ediv_nonneg (p1 k a b).2.2 (Int.le_of_lt p2)
    have := (p1 k a b).1
    omega
  have qs : ∀ k, fl ≤ k → k < n → r.2.1 k + r.2.2.1 k / r.2.2.2.1 ≤ 9999999 := fun k a b => by
    have := sI_mem (f := fun k => r.2.1 k + r.2.2.1 k / r.2.2.2.1) (n - fl) fl (fun j a b => q0 j a (by omega)) k a (by omega)
    unfold lfF at l1
    omega
  have au' : AR (mkD σ 4 n n) 4 u n := ⟨by rw [gS_mkD, if_neg (by omega)]; exact au.1, au.2.1, by rw [gM_mkD]; omega, h8⟩
  have r1' : gR (mkD σ 4 n n) f 1 = u := by rw [gR_mkD, if_neg (by omega)]; exact r1
  have hD' : gJ (mkD σ 4 n n) f 4 = gJ σ f 4 := by rw [gJ_mkD, if_neg (by omega)]
  have wJ' : ∀ k, aJ (mkD σ 4 n n) w k = aJ σ w k := fun k => by rw [aJ_mkD, if_neg (by omega)]
  have uJ' : ∀ k, aJ (mkD σ 4 n n) u k = aJ σ u k := fun k => by rw [aJ_mkD, if_neg (by omega)]
  have sI' : ∀ k, aI (mkD σ 4 n n) sa k = aI σ sa k := fun k => by rw [aI_mkD, if_neg (by omega)]
  have uw : u ≠ sa := fun z => by
    have a := au.1
    rw [z, as.1] at a
    exact absurd (congrArg Prod.fst a) (show ¬ (2 : Nat) = 4 by decide)
  have ww : w ≠ sa := fun z => by
    have a := aw.1
    rw [z, as.1] at a
    exact absurd (congrArg Prod.fst a) (show ¬ (2 : Nat) = 4 by decide)
  have hu0 := au.2.1
  have hw0 := aw.2.1
  have hs0 := as.2.1
  refine ok_of_q (fun Q hQ => ?_)
  have lp : ∀ (d i m : Nat) (τ : Sg) (l4 : Int64), i + d = n → d < m → Fr (fF []) (fA [sa, rs]) (mkD σ 4 n n) τ → l4.toInt = P0 - sI (fun k => if fl ≤ k then r.2.1 k + r.2.2.1 k / r.2.2.2.1 else 0) 0 i → (∀ k, fl ≤ k → k < i → (aI τ sa k).toInt = r.2.1 k + r.2.2.1 k / r.2.2.2.1 ∧ (aJ τ rs k).toInt = r.2.2.1 k % r.2.2.2.1) → (∀ k, k < fl → aI τ sa k = aI σ sa k) → Ok (DX8_cuts_15 m f op l4 rs (nI i) τ) Q := by
    intro d
    induction d with
    | zero =>
      intro i m τ l4 hi hm' hfr hl hk ho'
      obtain ⟨m, rfl⟩ : ∃ k, m = k + 1 := ⟨m - 1, by omega⟩
      have hC1 := hC.fr hfr e1 e2
      obtain ⟨c1, c2, c3, c4, c5, c6, c7, c8⟩ := id hC1
      rw [DX8_cuts_15, c1.p, chk_true, c2, show ckV w = true from decide_eq_true (by omega), chk_true, c4.q (by decide) (by decide), chk_true, c4.1, if_pos ((nI_leI (by omega) (by omega)).mpr (by omega))]
      have el : l4.toInt = lfF r fl n P0 := by
        have sp := sI_split (f := fun k => if fl ≤ k then r.2.1 k + r.2.2.1 k / r.2.2.2.1 else 0) fl (n - fl) 0
        rw [show fl + (n - fl) = n by omega, Nat.zero_add, sI_zero fl 0 (fun k _ b => if_neg (by omega)), sI_congr (g := fun k => r.2.1 k + r.2.2.1 k / r.2.2.2.1) (n - fl) fl (fun k a _ => if_pos a)] at sp
        rw [hl, show i = n by omega, sp]
        unfold lfF
        omega
      obtain ⟨L, hL⟩ : ∃ L : Nat, lfF r fl n P0 = (L : Int) := ⟨(lfF r fl n P0).toNat, (Int.toNat_of_nonneg l1).symm⟩
      unfold DX8_cuts_99
      rw [c1.h, chk_true, wlet_eq]
      have ft : Fr (fF [(f, 6)]) (fA [sa, rs]) (mkD σ 4 n n) (pI τ f 6 l4.toInt32) := (hfr.mono (fun _ _ _ => rfl) (fun _ z => z)).pI f 6 _ (fF_in (by simp))
      have hC2 : CtS (pI τ f 6 l4.toInt32) f op rs w sa n fl := ⟨c1, c2, c3, c4, c5, c6, c7, c8⟩
      refine n_cents (σ := pI τ f 6 l4.toInt32) (r := fun k => r.2.2.1 k % r.2.2.2.1) (sh := fun k => r.2.1 k + r.2.2.1 k / r.2.2.2.1) (L := L) hC2 e1 e2 e3 (fun k a b => Int.emod_nonneg _ (by omega)) (by rw [hL] at l2; omega) (fun k a b => ⟨q0 k a b, by have := qs k a b; omega⟩) (fun ω o1 o2 o3 => ?_) L 0 FU (pI τ f 6 l4.toInt32) (fun _ => false) l4 (by omega) (by rw [hL] at l2; unfold FU; omega) (by rw [el, hL]) gv_zero Fr.rf (fun k a b => ?_) (fun k a b => ?_) (fun _ _ => rfl)
      · refine hQ () ω ⟨?_, ?_, fun k a b => ?_, fun k a => ?_⟩
        · rw [← hrs]; exact ft.trans (o1.mono (fun _ _ _ => rfl) (fun _ z => z))
        · rw [o1.I f 6 rfl, gI_pI, if_pos ⟨rfl, rfl⟩, l_i (by rw [el]; omega) (by rw [el, hL]; rw [hL] at l2; omega), el]
        · rw [o2 k a b]
          unfold shF
          rw [hL]
        · rw [o3 k a, aI_pI]; exact ho' k a
      · rw [aJ_pI, if_neg (by decide)]; exact (hk k a (by omega)).2
      · rw [aI_pI, if_neg (by decide)]; have := (hk k a (by omega)).1; omega
    | succ d ih =>
      intro i m τ l4 hi hm' hfr hl hk ho'
      obtain ⟨m, rfl⟩ : ∃ k, m = k + 1 := ⟨m - 1, by omega⟩
      have hC1 := hC.fr hfr e1 e2
      obtain ⟨c1, c2, c3, c4, c5, c6, c7, c8⟩ := id hC1
      have sl := sI_last (f := fun k => if fl ≤ k then r.2.1 k + r.2.2.1 k / r.2.2.2.1 else 0) i 0
      rw [Nat.zero_add] at sl
      rw [DX8_cuts_15, c1.p, chk_true, c2, show ckV w = true from decide_eq_true (by omega), chk_true, c4.q (by decide) (by decide), chk_true, c4.1, if_neg (fun z => by have := (nI_leI (by omega) (by omega)).mp z; omega), c6.b (by omega), chk_true, nI_clamp (by omega), c8 i (by omega)]
      unfold DX8_cuts_93
      rw [show nI i + (1 : Int32) = nI (i + 1) from nI_add _ _]
      by_cases q : fl ≤ i
      · have a1 : gR τ f 1 = u := (hfr.R f 1 rfl).trans r1'
        have a2 := au'.fr hfr
        have g4 : gJ τ f 4 = gJ σ f 4 := (hfr.J f 4 rfl).trans hD'
        have gw : aJ τ w i = aJ σ w i := (hfr.aJ w (fA_no (by simp [ww, e4])) i).trans (wJ' i)
        have gu : aJ τ u i = aJ σ u i := (hfr.aJ u (fA_no (by simp [uw, e5])) i).trans (uJ' i)
        have dv : (aJ σ u i / gJ σ f 4).toInt = r.2.2.1 i / r.2.2.2.1 := by
          rw [l_div (by rw [hpt i q (by omega)]; exact (p1 i q (by omega)).2.2) (by rw [hD]; exact p2), hpt i q (by omega), hD]
        have dr : (aJ σ u i - aJ σ u i / gJ σ f 4 * gJ σ f 4).toInt = r.2.2.1 i % r.2.2.2.1 := by
          rw [l_rem (by rw [hpt i q (by omega)]; exact (p1 i q (by omega)).2.2) (by rw [hD]; exact p2), hpt i q (by omega), hD]
        have b1 := q0 i q (by omega)
        have b2 := qs i q (by omega)
        have ds : (aJ σ w i + aJ σ u i / gJ σ f 4).toInt = r.2.1 i + r.2.2.1 i / r.2.2.2.1 := by
          rw [l_add (by unfold sm; rw [hwh i q (by omega), dv]; omega), hwh i q (by omega), dv]
        have km : ckM (gJ σ f 4) = true := by
          unfold ckM
          refine decide_eq_true (fun z => ?_)
          rw [z, l_0] at hD
          omega
        have hi' : i < n := by omega
        have vS : ckV sa = true := decide_eq_true (by omega)
        have vW : ckV w = true := decide_eq_true (by omega)
        have vU : ckV u = true := decide_eq_true (by omega)
        obtain ⟨X, hX⟩ : ∃ X, (aJ σ w i + aJ σ u i / gJ σ f 4).toInt32 = X := ⟨_, rfl⟩
        have xI : X.toInt = r.2.1 i + r.2.2.1 i / r.2.2.2.1 := by rw [← hX, l_i (by rw [ds]; omega) (by rw [ds]; omega), ds]
        obtain ⟨Y, hY⟩ : ∃ Y, aJ σ u i - aJ σ u i / gJ σ f 4 * gJ σ f 4 = Y := ⟨_, rfl⟩
        rw [hY] at dr
        have d1 : FO (wI τ sa i X) f := c1
        have d2 : gR (wI τ sa i X) f 1 = u := a1
        have d3 : AR (wI τ sa i X) 4 u n := a2
        have d4 : gJ (wI τ sa i X) f 4 = gJ σ f 4 := g4
        have d5 : aJ (wI τ sa i X) u i = aJ σ u i := gu
        have d6 : AR (wI τ sa i X) 4 rs n := c7
        have f1 : FO (wJ (wI τ sa i X) rs i Y) f := c1
        have f2 : gR (wJ (wI τ sa i X) rs i Y) f 2 = sa := c3
        have f3 : AR (wJ (wI τ sa i X) rs i Y) 2 sa n := c5
        have f4 : aI (wJ (wI τ sa i X) rs i Y) sa i = X := by rw [aI_wJ, aI_wI, if_pos ⟨rfl, rfl⟩]
        rw [decide_eq_true q, if_neg (by decide)]
        simp only [c1.p, c2, c3, chk_true, vS, vW, c4.b hi', a1, vU, a2.b hi', g4, km, c5.b hi', wlet_eq, nI_clamp (show i < 2 ^ 31 by omega), gw, gu, hX, d1.p, d2, d3.b hi', d4, d5, d6.b hi', hY, f1.p, f2, f3.a hi', f4]
        refine ih (i + 1) m (wJ (wI τ sa i X) rs i Y) _ (by omega) (by omega) ((hfr.wI sa i _ (fA_in (by simp))).wJ rs i _ (fA_in (by simp))) ?_ (fun k a b => ?_) (fun k a => ?_)
        · have x64 : X.toInt64.toInt = X.toInt := i_l
          have sb := sI_b2 (g := fun k => if fl ≤ k then r.2.1 k + r.2.2.1 k / r.2.2.2.1 else 0) (B := 9999999) (by omega) i 0 (fun k _ b => by
            by_cases z : fl ≤ k
            · simp only [if_pos z]
              exact ⟨q0 k z (by omega), qs k z (by omega)⟩
            · simp only [if_neg z]
              omega)
          have hP0 : 0 ≤ P0 := by
            have := sI_nn (f := r.2.1) (n - fl) fl (fun k a b => (p1 k a (by omega)).1)
            omega
          rw [l_sub (by unfold sm; rw [x64, xI, hl]; omega), x64, xI, hl, sl, if_pos q]
          omega
        · by_cases z : k = i
          · subst z
            exact ⟨by rw [f4]; exact xI, by rw [aJ_wJ, if_pos ⟨rfl, rfl⟩]; exact dr⟩
          · have y := hk k a (by omega)
            exact ⟨by rw [aI_wJ, aI_wI, if_neg (fun v => z v.2)]; exact y.1, by rw [aJ_wJ, if_neg (fun v => z v.2), aJ_wI]; exact y.2⟩
        · rw [aI_wJ, aI_wI, if_neg (fun v => by omega)]
          exact ho' k a
      · rw [decide_eq_false q, if_pos (by decide)]
        refine ih (i + 1) m τ l4 (by omega) (by omega) hfr ?_ (fun k a b => by omega) ho'
        rw [hl, sl, if_neg q, Int.add_zero]
  unfold DX8_cuts DX8_cuts_10
  rw [hf.p, chk_true, r0, show ckV w = true from decide_eq_true (by omega), chk_true, aw.q (by decide) (by decide), chk_true, aw.1, show ckn (nI n) = true from by unfold ckn; simp only [Bool.and_eq_true, decide_eq_true_eq]; exact ⟨nI_pos' (by omega), (le_nI (b := 60000) (by omega) (by decide)).mpr (by omega)⟩, chk_true, show ck51 σ = true from decide_eq_true hN, chk_true, nI_clamp (by omega), wlet_eq, ← hrs]
  exact lp n 0 FU (mkD σ 4 n n) money (by omega) (by unfold FU; omega) Fr.rf (by rw [hm]; show P0 = P0 - 0; omega) (fun k a b => by omega) (fun k _ => sI' k)
end

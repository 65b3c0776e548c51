/-! THE LAW'S CENTS: the greatest rests first -/
section
variable {σ : Sg} {f op rs w sa n fl : Nat}
/-- what stands while the cents are given -/
def CtS (σ : Sg) (f op rs w sa n fl : Nat) : Prop := FO σ f ∧ gR σ f 0 = w ∧ gR σ f 2 = sa ∧ AR σ 4 w n ∧ AR σ 2 sa n ∧ AR σ 3 op n ∧ AR σ 4 rs n ∧ ∀ j, j < n → aI σ op j = bN (decide (fl ≤ j))
theorem n_best {K106 : Nat → Nat → Int64 → Nat → Sg → Option (Unit × Sg)} {Q : Unit → Sg → Prop} {R : Nat → Int} {l4 : Int64} (h : CtS σ f op rs w sa n fl) (hR : ∀ k, fl ≤ k → k < n → (aJ σ rs k).toInt = R k) (hfl : fl < n)
    (hQ : ∀ b, fl ≤ b → b < n → (∀ k, fl ≤ k → k < n → k = b ∨ bt R b k = true) → Ok (DX8_cuts_165 K106 f op l4 rs (nI b) σ) Q) :
    ∀ (d i m : Nat) (b : Int32), i + d = n → d < m → ((b = -1 ∧ i ≤ fl) ∨ ∃ b0, b = nI b0 ∧ fl ≤ b0 ∧ b0 < i ∧ ∀ k, fl ≤ k → k < i → k = b0 ∨ bt R b0 k = true) → Ok (DX8_cuts_119 K106 m f op l4 rs b (nI i) σ) Q := by
  obtain ⟨hf, r0, r2, aw, as, ao, ar, ho⟩ := h
  have h8 := aw.2.2.2
  have hw := aw.2.1
  intro d
  induction d with
  | zero =>
    intro i m b hi hm hb
    obtain ⟨m, rfl⟩ : ∃ k, m = k + 1 := ⟨m - 1, by omega⟩
    rw [DX8_cuts_119, hf.p, chk_true, r0, show ckV w = true from decide_eq_true (by omega), chk_true, aw.q (by decide) (by decide), chk_true, aw.1, if_pos ((nI_leI (by omega) (by omega)).mpr (by omega))]
    rcases hb with ⟨-, z⟩ | ⟨b0, rfl, b1, b2, b3⟩
    · omega
    · exact hQ b0 b1 (by omega) (fun k k1 k2 => b3 k k1 (by omega))
  | succ d ih =>
    intro i m b hi hm hb
    obtain ⟨m, rfl⟩ : ∃ k, m = k + 1 := ⟨m - 1, by omega⟩
    rw [DX8_cuts_119, hf.p, chk_true, r0, show ckV w = true from decide_eq_true (by omega), chk_true, aw.q (by decide) (by decide), chk_true, aw.1, if_neg (fun z => by have := (nI_leI (by omega) (by omega)).mp z; omega), ao.b (by omega), chk_true, nI_clamp (by omega), ho i (by omega)]
    unfold DX8_cuts_155 DX8_cuts_159
    rw [show nI i + (1 : Int32) = nI (i + 1) from nI_add _ _]
    by_cases q : fl ≤ i
    · rw [decide_eq_true q, if_neg (by decide)]
      rcases hb with ⟨rfl, z⟩ | ⟨b0, rfl, b1, b2, b3⟩
      · rw [if_pos (by decide)]
        refine ih (i + 1) m _ (by omega) (by omega) (Or.inr ⟨i, rfl, q, by omega, fun k k1 k2 => Or.inl (by omega)⟩)
      · have e1 := hR i q (by omega)
        have e2 := hR b0 b1 (by omega)
        rw [if_neg (show ¬ nI b0 < 0 from nI_nlt (b := 0) (by omega) (by omega)), ar.b (by omega), chk_true, ar.b (show b0 < n by omega), chk_true, nI_clamp (by omega)]
        by_cases q2 : aJ σ rs i ≤ aJ σ rs b0
        · rw [if_pos q2]
          rw [l_le, e1, e2] at q2
          refine ih (i + 1) m _ (by omega) (by omega) (Or.inr ⟨b0, rfl, b1, by omega, fun k k1 k2 => ?_⟩)
          by_cases z : k = i
          · exact Or.inr (bt_iff.mpr (by rw [z]; omega))
          · exact b3 k k1 (by omega)
        · rw [if_neg q2]
          rw [l_le, e1, e2] at q2
          refine ih (i + 1) m _ (by omega) (by omega) (Or.inr ⟨i, rfl, q, by omega, fun k k1 k2 => ?_⟩)
          by_cases z : k = i
          · exact Or.inl z
          · have g : bt R i b0 = true := bt_iff.mpr (Or.inl (by omega))
            rcases b3 k k1 (by omega) with y | y
            · rw [y]; exact Or.inr g
            · exact Or.inr (bt_trans g y)
    · rw [decide_eq_false q, if_pos (by decide)]
      refine ih (i + 1) m b (by omega) (by omega) ?_
      rcases hb with ⟨z, _⟩ | ⟨b0, _, b1, b2, _⟩
      · exact Or.inl ⟨z, by omega⟩
      · omega
theorem CtS.fr {τ : Sg} (h : CtS σ f op rs w sa n fl) (hf : Fr (fF []) (fA [sa, rs]) σ τ) (h1 : op ≠ sa) (h2 : op ≠ rs) : CtS τ f op rs w sa n fl := by
  obtain ⟨a1, a2, a3, a4, a5, a6, a7, a8⟩ := h
  exact ⟨a1.fr hf, (hf.R f 0 rfl).trans a2, (hf.R f 2 rfl).trans a3, a4.fr hf, a5.fr hf, a6.fr hf, a7.fr hf, fun j hj => (hf.aI op (fA_no (by simp [h1, h2])) j).trans (a8 j hj)⟩
theorem n_cents {Q : Unit → Sg → Prop} {r : Nat → Int} {sh : Nat → Int} {L : Nat} (h : CtS σ f op rs w sa n fl) (h1 : op ≠ sa) (h2 : op ≠ rs) (h3 : sa ≠ rs) (hr : ∀ k, fl ≤ k → k < n → 0 ≤ r k) (hL : L = 0 ∨ L < n - fl) (hs : ∀ k, fl ≤ k → k < n → 0 ≤ sh k ∧ sh k ≤ 99999999)
    (hQ : ∀ τ, Fr (fF []) (fA [sa, rs]) σ τ → (∀ k, fl ≤ k → k < n → (aI τ sa k).toInt = sh k + if (rk r fl n k : Int) < L then 1 else 0) → (∀ k, k < fl → aI τ sa k = aI σ sa k) → Q () τ) :
    ∀ (d j m : Nat) (τ : Sg) (G : Nat → Bool) (l4 : Int64), j + d = L → d < m → l4.toInt = d → GvI r fl n G j → Fr (fF []) (fA [sa, rs]) σ τ → (∀ k, fl ≤ k → k < n → (aJ τ rs k).toInt = if G k then -1 else r k) → (∀ k, fl ≤ k → k < n → (aI τ sa k).toInt = sh k + if G k then 1 else 0) → (∀ k, k < fl → aI τ sa k = aI σ sa k) → Ok (DX8_cuts_106 m f op l4 rs τ) Q := by
  intro d
  induction d with
  | zero =>
    intro j m τ G l4 hj hm hl hG hfr hR hS hO
    obtain ⟨m, rfl⟩ : ∃ k, m = k + 1 := ⟨m - 1, by omega⟩
    rw [DX8_cuts_106, if_pos (l_le.mpr (by rw [hl, l_0]; exact Int.le_refl _))]
    unfold DX8_cuts_193
    refine ok_some.mpr (hQ τ hfr (fun k a b => ?_) hO)
    rw [hS k a b, gv_rk hG a b]
    by_cases q : rk r fl n k < j
    · rw [decide_eq_true q, if_pos rfl, if_pos (by omega)]
    · rw [decide_eq_false q, if_neg (by decide), if_neg (by omega)]
  | succ d ih =>
    intro j m τ G l4 hj hm hl hG hfr hR hS hO
    obtain ⟨m, rfl⟩ : ∃ k, m = k + 1 := ⟨m - 1, by omega⟩
    have hC := h.fr hfr h1 h2
    obtain ⟨hf, r0, r2, aw, as, ao, ar, ho⟩ := id hC
    have h8 := aw.2.2.2
    have hfl : fl < n := by omega
    -- one is left
    have hex : ∃ k, fl ≤ k ∧ k < n ∧ G k = false := by
      apply Classical.byContradiction
      intro z
      have := cN_full (p := G) (n - fl) fl (fun k a b => by
        cases e : G k with
        | true => rfl
        | false => exact absurd ⟨k, a, by omega, e⟩ z)
      have := hG.1
      omega
    rw [DX8_cuts_106, if_neg (fun z => by rw [l_le, hl, l_0] at z; omega)]
    refine n_best (R := fun k => if G k then -1 else r k) hC hR hfl (fun b b1 b2 b3 => ?_) n 0 FU (-1) (by omega) (by unfold FU; omega) (Or.inl ⟨rfl, Nat.zero_le _⟩)
    have hb : G b = false := by
      cases e : G b with
      | false => rfl
      | true =>
        obtain ⟨k, k1, k2, k3⟩ := hex
        rcases b3 k k1 k2 with z | z
        · rw [z, e] at k3; cases k3
        · have z := bt_iff.mp z
          simp only [e, k3, if_true, Bool.false_eq_true, if_false] at z
          have := hr k k1 k2
          omega
    have hG2 := gv_step hG b1 b2 hb (fun k k1 k2 k3 => by
      rcases b3 k k1 k2 with z | z
      · exact Or.inl z
      · have z := bt_iff.mp z
        simp only [hb, k3, Bool.false_eq_true, if_false] at z
        exact Or.inr (bt_iff.mpr z))
    have sb := hs b b1 b2
    have eb := hS b b1 b2
    rw [hb] at eb
    simp only [Bool.false_eq_true, if_false] at eb
    have hsa := as.2.1
    unfold DX8_cuts_165
    rw [hf.p, chk_true, r2, show ckV sa = true from decide_eq_true (by omega), chk_true, as.a b2, chk_true, as.b b2, chk_true, wlet_eq, nI_clamp (by omega)]
    have ar' : AR (wI τ sa b (aI τ sa b + 1)) 4 rs n := ar
    rw [ar'.b b2, chk_true, wlet_eq]
    have f2 : Fr (fF []) (fA [sa, rs]) σ (wJ (wI τ sa b (aI τ sa b + 1)) rs b (-1)) := (hfr.wI sa b _ (fA_in (by simp))).wJ rs b _ (fA_in (by simp))
    refine ih (j + 1) m _ (fun k => G k || decide (k = b)) _ (by omega) (by omega) ?_ hG2 f2 (fun k a c => ?_) (fun k a c => ?_) (fun k a => ?_)
    · rw [l_sub (by unfold sm; rw [hl, show (1 : Int64).toInt = 1 by decide]; omega), hl, show (1 : Int64).toInt = 1 by decide]
      omega
    · rw [aJ_wJ]
      by_cases z : k = b
      · rw [if_pos ⟨rfl, z⟩, z, decide_eq_true rfl, Bool.or_true, if_pos rfl]
        decide
      · rw [if_neg (fun y => z y.2), aJ_wI, decide_eq_false z, Bool.or_false]
        exact hR k a c
    · rw [aI_wJ, aI_wI]
      by_cases z : k = b
      · rw [if_pos ⟨rfl, z⟩, z, decide_eq_true rfl, Bool.or_true, if_pos rfl, w_add (by rw [eb, show (1 : Int32).toInt = 1 by decide]; omega) (by rw [eb, show (1 : Int32).toInt = 1 by decide]; omega), eb, show (1 : Int32).toInt = 1 by decide]
        omega
      · rw [if_neg (fun y => z y.2), decide_eq_false z, Bool.or_false]
        exact hS k a c
    · rw [aI_wJ, aI_wI, if_neg (fun y => by omega)]
      exact hO k a
end

/-! THE LAW ASKS: is it like what was found? -/
section
variable {c : Nat → Int32} {σ σT : Sg} {c0 n t r : Nat} {fl : Nat → Nat}
theorem l_like (h : LI c c0 fl n σ) (ht : t < nTk c) (hD : FD c σ t (fl t) (aG σ 30 t) (aG σ 31 t) (nI (nH c t)) (-1) r σ) :
    Ok (DL_isLike 1 (nI t) r σ) (fun b υ => b = 1 ∧ GQ σ υ 0) := by
  have bt := nTk_b c
  have bo := nCo_b c t
  have bf := nF_b c t
  have ht9 : t < Wf c 9 := ht
  have hI := h.2.2.1.i
  have hF0 : ∀ τ, GQ σ τ 0 → Fin0 τ := fun τ hg => (gq_inv hI hg).b.c.fin
  have e1 : aG σ (14 + 9) t 1 = nI (nH c t) := (h.2.1.2.2.2.2.2 t ht).2.1
  have eF : aG σ (14 + 9) t 0 = nI (nF c t) := (h.2.1.2.2.2.2.2 t ht).1
  have tot := hI.b.shsum (how := aG σ (14 + 9) t 1) (sk := -1) (car := aG σ 30 t) ht9 (hI.cf ht9)
  have shb := fun k (hk : k < nCo c t) => hI.shb ht9 hk
  have k51 : ∀ τ, GQ σ τ 0 → ckO τ 5 1 = true := fun τ hg => c_o (hF0 τ hg)
  refine ok_of_q (fun Q hQ => ?_)
  have lp : ∀ (d i m : Nat) (τ : Sg) (l3 : Int32), i + d = nCo c t → d < m → GQ σ τ 0 → l3.toInt = sI (shN σ 14 (Wf c) (nCo c) fl t) 0 i → Ok (DL_isLike_5 m 1 (nI t) r l3 (nI i) τ) Q := by
    intro d
    induction d with
    | zero =>
      intro i m τ l3 hi hm hg hl
      obtain ⟨m, rfl⟩ : ∃ k, m = k + 1 := ⟨m - 1, by omega⟩
      obtain ⟨d1, d2, d3, d4, d5, d6, d7, d8⟩ := gq_FD hD hg
      have vr : ckV (r + 3) = true := decide_eq_true (by omega)
      rw [DL_isLike_5, d1.p, chk_true, d2, vr, chk_true, d4.q (by decide) (by decide), chk_true, d4.1, if_pos ((nI_leI (by omega) (by omega)).mpr (by omega))]
      unfold DL_isLike_69 DL_isLike_107 DL_isLike_108
      rw [k51 τ hg, chk_true]
      refine ok_bnd (c_fare (gq_inv hI hg) ht9) (fun v1 τ1 u1 => ?_)
      have g1 : GQ σ τ1 0 := hg.tr (gq_fr u1.2)
      rw [ckT2_fr u1.2, chk_true]
      have ev : l3 = v1 := w_inj (by
        rw [u1.1, hl, show i = nCo c t by omega, congrFun (congrFun (show aG τ (14 + 9) = aG σ (14 + 9) from gq_aG hg (a := 23) (by decide) (by decide)) t) 0]
        exact tot)
      rw [if_pos ev, k51 τ1 g1, chk_true]
      refine ok_bnd (c_rounds (gq_inv hI g1) ht9) (fun v3 τ2 u2 => ?_)
      have g2 : GQ σ τ2 0 := g1.tr (gq_fr u2.2)
      obtain ⟨a1, a2, a3, a4, a5, a6, a7, a8⟩ := gq_FD hD g2
      have er : v3 = gI τ2 r 5 := w_inj (by
        rw [u2.1, a7, show aG τ1 (14 + 9) = aG σ (14 + 9) from gq_aG g1 (a := 23) (by decide) (by decide), gq_aG g1 (a := 30) (by decide) (by decide), gq_aG g1 (a := 31) (by decide) (by decide), gq_RC g1, e1])
      rw [ckT2_fr u2.2, chk_true, a1.p, chk_true, if_pos er, k51 τ2 g2, chk_true]
      refine ok_bnd (c_left (gq_inv hI g2) ht9) (fun v5 τ3 u3 => ?_)
      have g3 : GQ σ τ3 0 := g2.tr (gq_fr u3.2)
      obtain ⟨b1, b2, b3, b4, b5, b6, b7, b8⟩ := gq_FD hD g3
      have el : v5 = gI τ3 r 6 := w_inj (by
        rw [u3.1, b8, show aG τ2 (14 + 9) = aG σ (14 + 9) from gq_aG g2 (a := 23) (by decide) (by decide), gq_aG g2 (a := 30) (by decide) (by decide), gq_aG g2 (a := 31) (by decide) (by decide), gq_LFC g2, e1])
      rw [ckT2_fr u3.2, chk_true, b1.p, chk_true, if_pos el, ck01_1, chk_true]
      exact ok_some.mpr (hQ _ _ ⟨rfl, g3⟩)
    | succ d ih =>
      intro i m τ l3 hi hm hg hl
      obtain ⟨m, rfl⟩ : ∃ k, m = k + 1 := ⟨m - 1, by omega⟩
      obtain ⟨d1, d2, d3, d4, d5, d6, d7, d8⟩ := gq_FD hD hg
      have hi' : i < nCo c t := by omega
      have hcl : (nI i).toNatClampNeg = i := nI_clamp (by omega)
      have vr : ckV (r + 3) = true := decide_eq_true (by omega)
      have vr4 : ckV (r + 4) = true := decide_eq_true (by omega)
      rw [DL_isLike_5, d1.p, chk_true, d2, vr, chk_true, d4.q (by decide) (by decide), chk_true, d4.1, if_neg (fun z => by have := (nI_leI (by omega) (by omega)).mp z; omega), k51 τ hg, chk_true]
      refine ok_bnd (c_share (gq_inv hI hg) ht9 hi') (fun v1 τ1 u1 => ?_)
      have g1 : GQ σ τ1 0 := hg.tr (gq_fr u1.2)
      obtain ⟨a1, a2, a3, a4, a5, a6, a7, a8⟩ := gq_FD hD g1
      have es : (aI τ1 (r + 3) i).toInt = shN σ 14 (Wf c) (nCo c) fl t i := by
        rw [(a6 i hi').1, ← e1]
      have ev : v1 = aI τ1 (r + 3) i := w_inj (by
        rw [u1.1, es]
        show SHC τ 14 (Wf c) (nCo c t) t (aG τ (14 + 9) t 1) (-1) (aG τ 30 t) (fl t) (aG τ 31 t) i = _
        rw [show aG τ (14 + 9) = aG σ (14 + 9) from gq_aG hg (a := 23) (by decide) (by decide), gq_aG hg (a := 30) (by decide) (by decide), gq_aG hg (a := 31) (by decide) (by decide), gq_SHC hg])
      rw [ckT2_fr u1.2, chk_true, a1.p, chk_true, a2, vr, chk_true, a4.a hi', chk_true, hcl, if_pos ev, k51 τ1 g1, chk_true]
      refine ok_bnd (c_coup6 (gq_inv hI g1) ht9 hi') (fun v3 τ2 u2 => ?_)
      have g2 : GQ σ τ2 0 := g1.tr (gq_fr u2.2)
      obtain ⟨b1, b2, b3, b4, b5, b6, b7, b8⟩ := gq_FD hD g2
      have eb : v3 = aI τ2 (r + 4) i := w_inj (by
        rw [u2.1, (b6 i hi').2, show aG τ1 (14 + 9) = aG σ (14 + 9) from gq_aG g1 (a := 23) (by decide) (by decide), gq_aG g1 (a := 30) (by decide) (by decide), gq_aG g1 (a := 31) (by decide) (by decide), gq_BYC g1, e1])
      have es2 : (aI τ2 (r + 3) i).toInt = shN σ 14 (Wf c) (nCo c) fl t i := by
        rw [(b6 i hi').1, ← e1]
      rw [ckT2_fr u2.2, chk_true, b1.p, chk_true, b3, vr4, chk_true, b5.a hi', chk_true, if_pos eb, b1.p, chk_true, b2, vr, chk_true, b4.a hi', chk_true, show nI i + (1 : Int32) = nI (i + 1) from nI_add _ _]
      have sl := sI_last (f := shN σ 14 (Wf c) (nCo c) fl t) i 0
      rw [Nat.zero_add] at sl
      have sb := sI_b2 (g := shN σ 14 (Wf c) (nCo c) fl t) (B := 9999999) (by omega) i 0 (fun k _ hk => shb k (by omega))
      have b0 := shb i hi'
      exact ih (i + 1) m τ2 _ (by omega) (by omega) g2 (by rw [w_add (x := l3) (y := aI τ2 (r + 3) i) (by rw [hl, es2]; omega) (by rw [hl, es2]; omega), hl, es2, sl])
  unfold DL_isLike
  exact lp (nCo c t) 0 FU σ 0 (by omega) (by unfold FU; omega) gq_rf rfl
end

/-! THE LAW ASKS: without each proviso; what matters -/
theorem mt_bit (D : Nat → Bool) {N t : Nat} (hN : N ≤ 3) (ht : t < N) : (mtR D N 0 0 >>> (nI t &&& 31)) &&& (1 : Int32) = bN (D t) := by
  rcases (by omega : N = 1 ∨ N = 2 ∨ N = 3) with q | q | q
  · subst q
    have e : t = 0 := by omega
    subst e
    simp only [mtR, Nat.zero_add]
    generalize D 0 = a
    cases a <;> decide
  · subst q
    simp only [mtR, Nat.zero_add]
    rcases (by omega : t = 0 ∨ t = 1) with e | e <;> subst e <;> generalize D 0 = a <;> generalize D 1 = b <;> cases a <;> cases b <;> decide
  · subst q
    simp only [mtR, Nat.zero_add, Nat.reduceAdd]
    rcases (by omega : t = 0 ∨ t = 1 ∨ t = 2) with e | e | e <;> subst e <;> generalize D 0 = a <;> generalize D 1 = b <;> generalize D 2 = z <;> cases a <;> cases b <;> cases z <;> decide
section
variable {c : Nat → Int32} {σ τ : Sg} {c0 n t k : Nat} {fl W tn : Nat → Nat}
theorem gq_shN (hg : GQ σ τ k) : shN τ 14 W tn fl t = shN σ 14 W tn fl t := by
  show SHC τ 14 W (tn t) t (aG τ (14 + 9) t 1) (-1) (aG τ 30 t) (fl t) (aG τ 31 t) = _
  rw [show aG τ (14 + 9) = aG σ (14 + 9) from gq_aG hg (a := 23) (by decide) (by decide), gq_aG hg (a := 30) (by decide) (by decide), gq_aG hg (a := 31) (by decide) (by decide), gq_SHC hg]
theorem gq_woS {p : Nat} (hg : GQ σ τ k) : woS τ 14 W tn fl p t = woS σ 14 W tn fl p t := by
  show SHC τ 14 W (tn t) t (aG τ (14 + 9) t 1) (nI p) (aG τ 30 t) (fl t) (aG τ 31 t) = _
  rw [show aG τ (14 + 9) = aG σ (14 + 9) from gq_aG hg (a := 23) (by decide) (by decide), gq_aG hg (a := 30) (by decide) (by decide), gq_aG hg (a := 31) (by decide) (by decide), gq_SHC hg]
theorem gq_dfT {p : Nat} (hg : GQ σ τ k) : dfT τ 14 W tn fl p = dfT σ 14 W tn fl p := by
  funext t
  show dfR (shN τ 14 W tn fl t) (woS τ 14 W tn fl p t) (tn t) 0 = _
  rw [gq_shN hg, gq_woS hg]
theorem l_399 {K115 : Nat → Nat → Nat → Nat → Int32 → Sg → Option (Int32 × Sg)} {K125 : Nat → Nat → Nat → Nat → Int32 → Int32 → Sg → Option (Int32 × Sg)} {K359 : Nat → Nat → Nat → Nat → Int32 → Int32 → Nat → Int32 → Sg → Option (Int32 × Sg)} {Q : Int32 → Sg → Prop} {l4 : Int32} {ow wo p : Nat} (h : LI c c0 fl n σ) (ht : t < nTk c) (hp : p < nPr c)
    (hQ : ∀ υ, GQ σ υ k → FD c σ t (fl t) (aG σ 30 t) (aG σ 31 t) (nI (nH c t)) (-1) ow υ → Ok (DL_law_468 K115 K125 K359 1024 1 c0 (c0 + 1) l4 (nI t) ow (nI p) (bN (dfT σ 14 (Wf c) (nCo c) fl p t)) υ) Q) :
    ∀ (d i m : Nat) (τ : Sg) (acc : Bool), i + d = nCo c t → d < m → GQ σ τ k → FD c σ t (fl t) (aG σ 30 t) (aG σ 31 t) (nI (nH c t)) (-1) ow τ → FD c σ t (fl t) (aG σ 30 t) (aG σ 31 t) (nI (nH c t)) (nI p) wo τ → (acc || dfR (shN σ 14 (Wf c) (nCo c) fl t) (woS σ 14 (Wf c) (nCo c) fl p t) d i) = dfT σ 14 (Wf c) (nCo c) fl p t →
      Ok (DL_law_399 K115 K125 K359 m 1024 1 c0 (c0 + 1) l4 (nI t) ow (nI p) wo (bN acc) (nI i) τ) Q := by
  have bt := nTk_b c
  have bo := nCo_b c t
  have ht9 : t < Wf c 9 := ht
  have hp5 : p < Wf c 5 := hp
  have hI := h.2.2.1.i
  have e1 : aG σ (14 + 9) t 1 = nI (nH c t) := (h.2.1.2.2.2.2.2 t ht).2.1
  intro d
  induction d with
  | zero =>
    intro i m τ acc hi hm hg hO hW hA
    obtain ⟨m, rfl⟩ : ∃ k, m = k + 1 := ⟨m - 1, by omega⟩
    rw [DL_law_399, n_coupons (h.q hg).1.sc t (by omega), bnd_some, if_pos ((nI_leI (by omega) (by omega)).mpr (by omega))]
    have ea : acc = dfT σ 14 (Wf c) (nCo c) fl p t := by
      rw [← hA]
      show acc = (acc || false)
      rw [Bool.or_false]
    rw [ea]
    exact hQ τ hg hO
  | succ d ih =>
    intro i m τ acc hi hm hg hO hW hA
    obtain ⟨m, rfl⟩ : ∃ k, m = k + 1 := ⟨m - 1, by omega⟩
    have hi' : i < nCo c t := by omega
    have hcl : (nI i).toNatClampNeg = i := nI_clamp (by omega)
    rw [DL_law_399, n_coupons (h.q hg).1.sc t (by omega), bnd_some, if_neg (fun z => by have := (nI_leI (by omega) (by omega)).mp z; omega), c_o (gq_inv hI hg).b.c.fin, chk_true]
    refine ok_bnd (c_wout (gq_inv hI hg) hp5 ht9 hi') (fun v1 τ1 u1 => ?_)
    have g1 : GQ σ τ1 k := hg.tr (gq_fr u1.2)
    have hO1 := gq_FD hO (gq_fr u1.2)
    have hW1 := gq_FD hW (gq_fr u1.2)
    obtain ⟨p1, p2, p3, p4, p5, p6, p7, p8⟩ := id hW1
    obtain ⟨q1, q2, q3, q4, q5, q6, q7, q8⟩ := id hO1
    have ew : (aI τ1 (wo + 3) i).toInt = woS σ 14 (Wf c) (nCo c) fl p t i := by rw [(p6 i hi').1, ← e1]
    have eo : (aI τ1 (ow + 3) i).toInt = shN σ 14 (Wf c) (nCo c) fl t i := by rw [(q6 i hi').1, ← e1]
    have ev : v1 = aI τ1 (wo + 3) i := w_inj (by
      rw [u1.1, ew]
      exact congrFun (gq_woS hg) i)
    rw [ckT2_fr u1.2, chk_true, p1.p, chk_true, p2, show ckV (wo + 3) = true from decide_eq_true (by omega), chk_true, p4.a hi', chk_true, hcl, if_pos ev, chk_true, chk_true, chk_true, q1.p, chk_true, q2, show ckV (ow + 3) = true from decide_eq_true (by omega), chk_true, q4.a hi', chk_true]
    unfold DL_law_459
    rw [show nI i + (1 : Int32) = nI (i + 1) from nI_add _ _]
    rw [show dfR (shN σ 14 (Wf c) (nCo c) fl t) (woS σ 14 (Wf c) (nCo c) fl p t) (d + 1) i = if shN σ 14 (Wf c) (nCo c) fl t i = woS σ 14 (Wf c) (nCo c) fl p t i then dfR (shN σ 14 (Wf c) (nCo c) fl t) (woS σ 14 (Wf c) (nCo c) fl p t) d (i + 1) else true from rfl] at hA
    by_cases q : shN σ 14 (Wf c) (nCo c) fl t i = woS σ 14 (Wf c) (nCo c) fl p t i
    · rw [if_pos (w_inj (by rw [ew, eo, q])), show bN acc ||| (0 : Int32) = bN acc by cases acc <;> decide]
      rw [if_pos q] at hA
      exact ih (i + 1) m τ1 acc (by omega) (by omega) g1 hO1 hW1 hA
    · rw [if_neg (fun z => q (by rw [← ew, ← eo, z])), show bN acc ||| (1 : Int32) = bN true by cases acc <;> decide]
      rw [if_neg q, Bool.or_true] at hA
      exact ih (i + 1) m τ1 true (by omega) (by omega) g1 hO1 hW1 (by rw [← hA]; rfl)
theorem l_359 {K115 : Nat → Nat → Nat → Nat → Int32 → Sg → Option (Int32 × Sg)} {K125 : Nat → Nat → Nat → Nat → Int32 → Int32 → Sg → Option (Int32 × Sg)} {Q : Int32 → Sg → Prop} {l4 : Int32} {ow : Nat} (h : LI c c0 fl n σ) (ht : t < nTk c)
    (hQ : ∀ υ, GQ σ υ (k + nPr c) → Ok (DL_law_500 K115 K125 1024 1 c0 (c0 + 1) l4 (nI t) υ) Q) :
    ∀ (d p m : Nat) (τ : Sg), p + d = nPr c → d < m → GQ σ τ (k + p) → FD c σ t (fl t) (aG σ 30 t) (aG σ 31 t) (nI (nH c t)) (-1) ow τ → Ok (DL_law_359 K115 K125 m 1024 1 c0 (c0 + 1) l4 (nI t) ow (nI p) τ) Q := by
  have bt := nTk_b c
  have bo := nCo_b c t
  have bp := nPr_b c
  have bh := nH_b c t
  have clt : (nI t).toNatClampNeg = t := nI_clamp (by omega)
  have hI := h.2.2.1.i
  intro d
  induction d with
  | zero =>
    intro p m τ hi hm hg hO
    obtain ⟨m, rfl⟩ : ∃ k, m = k + 1 := ⟨m - 1, by omega⟩
    rw [DL_law_359, n_provisos (h.q hg).1.sc, bnd_some, if_pos ((nI_leI (by omega) (by omega)).mpr (by omega))]
    exact hQ τ (hg.wk (by omega))
  | succ d ih =>
    intro p m τ hi hm hg hO
    obtain ⟨m, rfl⟩ : ∃ k, m = k + 1 := ⟨m - 1, by omega⟩
    have hp : p < nPr c := by omega
    have L := h.q hg
    obtain ⟨l1, l2, l3, ⟨a1, a2, a3, a4⟩, l5⟩ := id L
    obtain ⟨b1, b2, b3, b4⟩ := l5 t ht
    have v5 := L.b5 ht
    rw [DL_law_359, n_provisos l1.sc, bnd_some, if_neg (fun z => by have := (nI_leI (by omega) (by omega)).mp z; omega), n_how l1.sc t (by omega), bnd_some, v5.1, chk_true, clt, b1, show ckV (c0 + 2 + 2 * t) = true from decide_eq_true (by omega), chk_true, v5.2, chk_true, b2, show ckV (c0 + 3 + 2 * t) = true from decide_eq_true (by omega), chk_true]
    refine ok_bnd (l_found hI.b l1 (h.fg hg ht ⟨nH c t, rfl, bh⟩ (sk := nI p) (fun z => by
      have z2 := congrArg Int32.toInt z
      rw [nI_i (by omega), show (-2 : Int32).toInt = -2 by decide] at z2
      omega))) (fun wo τ1 u1 => ?_)
    obtain ⟨u2, u3, u4⟩ := u1
    have gf : GQ τ τ1 1 := gq_hx u3 (by omega)
    have g1 : GQ σ τ1 (k + p + 1) := hg.tr gf
    unfold DL_law_391
    refine l_399 (k := k + p + 1) h ht hp (fun υ g2 hO2 => ?_) (nCo c t) 0 FU τ1 false (by omega) (by unfold FU; omega) g1 (gq_FD hO gf) u4 rfl
    unfold DL_law_468
    rw [c_o (gq_inv hI g2).b.c.fin, chk_true]
    refine ok_bnd (c_matters (gq_inv hI g2) (show p < Wf c 5 from hp)) (fun v1 τ3 u5 => ?_)
    have g3 : GQ σ τ3 (k + (p + 1)) := (g2.tr (gq_fr u5.2)).wk (by omega)
    have hO3 := gq_FD hO2 (gq_fr u5.2)
    have ev : v1 = mtR (dfT σ 14 (Wf c) (nCo c) fl p) (nTk c) 0 0 := w_inj (by
      rw [u5.1, gq_dfT g2]
      rfl)
    have eb := mt_bit (dfT σ 14 (Wf c) (nCo c) fl p) bt.2 ht
    rw [ckT2_fr u5.2, chk_true, ev, eb]
    unfold DL_law_489
    rw [show nI p + (1 : Int32) = nI (p + 1) from nI_add _ _]
    cases e : dfT σ 14 (Wf c) (nCo c) fl p t with
    | true =>
      rw [if_neg (by decide), if_pos (by decide)]
      exact ih (p + 1) m τ3 (by omega) (by omega) g3 hO3
    | false =>
      rw [if_pos (by decide), if_pos (by decide)]
      exact ih (p + 1) m τ3 (by omega) (by omega) g3 hO3
end

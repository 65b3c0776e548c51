/-! a call that changes the ledger -/
abbrev CFd : List (Nat × Nat) := [(36, 0), (36, 1), (36, 2), (36, 3), (36, 4), (36, 5), (36, 15), (36, 16), (36, 17), (46, 2), (26, 9), (26, 10)]
abbrev CAr : List Nat := [37, 38, 39, 40, 41, 42, 43, 44, 45, 47, 48, 49, 50, 28, 29, 30, 31, 32, 33, 34, 35]
abbrev WF : List (Nat × Nat) := [(51, 0), (51, 22), (51, 47), (51, 48), (51, 49), (51, 50), (51, 57)]
abbrev WA : List Nat := [61, 62, 69, 70, 71, 72, 73, 74, 75, 76, 77, 78, 79, 80, 81]
abbrev UF : List (Nat × Nat) := CFd ++ WF
abbrev UA : List Nat := CAr ++ WA
theorem ua_b {b j : Nat} (hb : isB b) (hj : j ≤ 10) : fA UA (b + j) = false := by
  have : j = 0 ∨ j = 1 ∨ j = 2 ∨ j = 3 ∨ j = 4 ∨ j = 5 ∨ j = 6 ∨ j = 7 ∨ j = 8 ∨ j = 9 ∨ j = 10 := by omega
  rcases hb with rfl | rfl <;> rcases this with rfl | rfl | rfl | rfl | rfl | rfl | rfl | rfl | rfl | rfl | rfl <;> decide
theorem jst_mk {σ ω : Sg} {b n f n' f' : Nat} {W tn fl fl' : Nat → Nat} (h : Jst σ b W tn fl n f) (hf : Fr (fF UF) (fA UA) σ ω) (hg : GoodL σ b W tn fl' (led ω) (aI ω 61)) (hh : HistF ω b W tn fl' n' f') : Jst ω b W tn fl' n' f' := by
  have hb := h.i.b.c.hb
  have hB : InvB ω b W tn := h.i.b.fr hf (by decide) (by decide)
  have e9 := InvB.g (j := 9) hb hf (show tbA (fA UA) = true by decide) (by omega) (by omega)
  have e27 : aI ω 27 = aI σ 27 := funext fun x => hf.aI 27 (by decide) x
  obtain ⟨l1, l2⟩ := of_good (good_tab hg e9) (fun t ht => by rw [e27, e9]; exact (h.i.l t ht).2.1)
  refine ⟨⟨hB, (hf.R 1 2 (by decide)).trans h.i.t, l1, l2⟩, h.d.fr hb hf (ua_b hb (by omega)) (ua_b hb (by omega)) (by decide), hh, ?_, (hf.R 1 3 (by decide)).trans h.2.2.2.2⟩
  have e2 : aI ω 2 = aI σ 2 := funext fun x => hf.aI 2 (by decide) x
  have e52 : aI ω 52 = aI σ 52 := funext fun x => hf.aI 52 (by decide) x
  have t := h.t
  unfold InvT at t ⊢
  rw [e2, e52, hf.I 1 1 (by decide), hf.I 51 2 (by decide), hf.I 25 9 (by decide), hf.I 25 10 (by decide), hf.I 51 31 (by decide), hf.I 51 32 (by decide)]
  exact t
theorem jst_push {σ υ ω : Sg} {b n f : Nat} {W tn fl fl' : Nat → Nat} (h : Jst σ b W tn fl n f) (u1 : Fr (fF CFd) (fA CAr) σ υ) (u9 : gI υ 26 9 = nI (frH n f)) (u10 : gI υ 26 10 = nI (nxH n))
    (u34 : ∀ s, s ≠ (f + n) % 14 → aG υ 34 s = aG σ 34 s) (u35 : ∀ s, s ≠ (f + n) % 14 → aG υ 35 s = aG σ 35 s) (w1 : Fr (fF WF) (fA WA) υ ω) (w22 : gI ω 51 22 = nI (nxH n))
    (w62 : ∀ i, i + 1 < nxH n → ∀ k, k < 242 → aI ω 62 (242 * i + k) = aI σ 62 (242 * (i + shH n) + k)) (w62b : ∀ k, k < 242 → aI ω 62 (242 * (nxH n - 1) + k) = aI σ 61 k)
    (hg : GoodL σ b W tn fl' (led υ) (aI ω 61)) (hst : StepOK W tn fl' fl (aG υ 34 ((f + n) % 14))) (hsim : SimL W tn fl (undoF (fun t => aG σ (b + 9) t 3) (aG υ 34 ((f + n) % 14)) (aG υ 35 ((f + n) % 14)) (led υ)) (led σ)) :
    Jst ω b W tn fl' (nxH n) (frH n f) := by
  have hb := h.i.b.c.hb
  have bd := h.i.b.c.bd
  have hf : Fr (fF UF) (fA UA) σ ω := (u1.up (by decide) (by decide)).trans (w1.up (by decide) (by decide))
  have e9 := InvB.g (j := 9) hb hf (show tbA (fA UA) = true by decide) (by omega) (by omega)
  have el : led ω = led υ := led_fr w1 (by decide)
  have e34 : aG ω 34 = aG υ 34 := funext fun x => funext fun y => w1.aG 34 (by decide) x y
  have e35 : aG ω 35 = aG υ 35 := funext fun x => funext fun y => w1.aG 35 (by decide) x y
  refine jst_mk h hf (by rw [el]; exact hg) ?_
  refine hist_push h.h (good_of h.i.l h.i.g) e9 (by omega) (fun t ht => (h.i.n8 ht).2.2.1) ?_ ?_ w22 ?_ ?_ w62 w62b ?_ ?_
  · exact (w1.I 26 9 (by decide)).trans u9
  · exact (w1.I 26 10 (by decide)).trans u10
  · rw [e34]; exact u34
  · rw [e35]; exact u35
  · rw [e34]; exact hst
  · rw [e34, e35, el]; exact hsim
theorem mth_keeps {σ υ τ : Sg} {b n f : Nat} {W tn fl : Nat → Nat} (h : Jst σ b W tn fl n f) (u1 : Fr (fF CFd) (fA CAr) σ υ) (t1 : Fr (fF QF) (fA QA) υ τ) :
    Ok (DX8_keeps 51 τ) (fun _ ρ => Fr (fF [(51, 22)]) (fA [62]) τ ρ ∧ gI ρ 51 22 = nI (nxH n) ∧ (∀ i, i + 1 < nxH n → ∀ k, k < 242 → aI ρ 62 (242 * i + k) = aI σ 62 (242 * (i + shH n) + k)) ∧ ∀ k, k < 242 → aI ρ 62 (242 * (nxH n - 1) + k) = aI σ 61 k) := by
  have hh := h.h
  have e62 : aI τ 62 = aI σ 62 := funext fun x => (t1.aI 62 (by decide) x).trans (u1.aI 62 (by decide) x)
  have e61 : aI τ 61 = aI σ 61 := funext fun x => (t1.aI 61 (by decide) x).trans (u1.aI 61 (by decide) x)
  have hF := (t1.fin (u1.fin h.i.b.c.fin (by decide)) (by decide))
  refine (m_keeps (n := n) hF hh.1 ((t1.I 51 22 (by decide)).trans ((u1.I 51 22 (by decide)).trans hh.2.2.2.1))).mono (fun _ ρ hr => ?_)
  rw [e62, e61] at hr
  exact hr

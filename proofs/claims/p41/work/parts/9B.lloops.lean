/-! THE LAW: tickets, acts, the end -/
section
variable {c : Nat → Int32} {σ τ : Sg} {c0 n k : Nat} {fl : Nat → Nat}
theorem fd_T {σ' : Sg} {t f r : Nat} {how sk : Int32} {car sh : Nat → Int32} (h : FD c σ t f car sh how sk r τ) (hg : GQ σ σ' k) : FD c σ' t f car sh how sk r τ := by
  unfold FD at h ⊢
  rw [gq_SHC hg, gq_BYC hg, gq_RC hg, gq_LFC hg]
  exact h
theorem l_125 {K115 : Nat → Nat → Nat → Nat → Int32 → Sg → Option (Int32 × Sg)} {Q : Int32 → Sg → Prop} {l4 : Int32} (h : LI c c0 fl n σ)
    (hQ : ∀ υ, GQ σ υ 24 → Ok (DL_law_506 K115 1024 1 c0 (c0 + 1) l4 υ) Q) :
    ∀ (d t m : Nat) (τ : Sg), t + d = nTk c → d < m → GQ σ τ (8 * t) → Ok (DL_law_125 K115 m 1024 1 c0 (c0 + 1) l4 (nI t) τ) Q := by
  have bt := nTk_b c
  have hI := h.2.2.1.i
  intro d
  induction d with
  | zero =>
    intro t m τ hi hm hg
    obtain ⟨m, rfl⟩ : ∃ k, m = k + 1 := ⟨m - 1, by omega⟩
    rw [DL_law_125, n_tickets (h.q hg).1.sc, bnd_some, if_pos ((nI_leI (by omega) (by omega)).mpr (by omega))]
    exact hQ τ (hg.wk (by omega))
  | succ d ih =>
    intro t m τ hi hm hg
    obtain ⟨m, rfl⟩ : ∃ k, m = k + 1 := ⟨m - 1, by omega⟩
    have ht : t < nTk c := by omega
    have bo := nCo_b c t
    have bp := nPr_b c
    have bh := nH_b c t
    have clt : (nI t).toNatClampNeg = t := nI_clamp (by omega)
    have s1 : (1 : Int32) - nI (nH c t) = nI (1 - nH c t) := pk_sub (a := 1) (by omega)
    -- what the arrays are, in each state
    have ask : ∀ τ' k', GQ σ τ' k' → (Sc c τ') ∧ ckB τ' 5 c0 (nI t) = true ∧ gR τ' c0 t = c0 + 2 + 2 * t ∧ ckV (c0 + 2 + 2 * t) = true ∧ ckB τ' 5 (c0 + 1) (nI t) = true ∧ gR τ' (c0 + 1) t = c0 + 3 + 2 * t ∧ ckV (c0 + 3 + 2 * t) = true := fun τ' k' g => by
      have L := h.q g
      have v5 := L.b5 ht
      obtain ⟨b1, b2, -⟩ := L.2.2.2.2 t ht
      exact ⟨L.1.sc, v5.1, b1, decide_eq_true (by omega), v5.2, b2, decide_eq_true (by omega)⟩
    obtain ⟨e0, e1, e2, e3, e4, e5, e6⟩ := ask τ _ hg
    rw [DL_law_125, n_tickets e0, bnd_some, if_neg (fun z => by have := (nI_leI (by omega) (by omega)).mp z; omega), n_how e0 t (by omega), bnd_some, e1, chk_true, clt, e2, e3, chk_true, e4, chk_true, e5, e6, chk_true]
    refine ok_bnd (l_found hI.b (h.q hg).1 (h.fg hg ht ⟨nH c t, rfl, bh⟩ (sk := -1) (by decide))) (fun ow τ1 u1 => ?_)
    obtain ⟨-, u2, u3⟩ := u1
    have g1 : GQ σ τ1 (8 * t + 1) := hg.tr (gq_hx u2 (by omega))
    have D1 : FD c τ1 t (fl t) (aG τ1 30 t) (aG τ1 31 t) (nI (nH c t)) (-1) ow τ1 := by
      rw [gq_aG g1 (a := 30) (by decide) (by decide), gq_aG g1 (a := 31) (by decide) (by decide)]
      exact fd_T u3 g1
    unfold DL_law_156
    refine ok_bnd (l_like (h.q g1) ht D1) (fun b τ2 u4 => ?_)
    obtain ⟨rfl, u5⟩ := u4
    have g2 : GQ σ τ2 (8 * t + 1) := g1.tr u5
    have D2 := gq_FD u3 u5
    obtain ⟨f0, f1, f2, f3, f4, f5, f6⟩ := ask τ2 _ g2
    rw [if_neg (by decide), n_how f0 t (by omega), bnd_some, f1, chk_true, clt, f2, f3, chk_true, f4, chk_true, f5, f6, chk_true]
    refine ok_bnd (l_found hI.b (h.q g2).1 (h.fgp g2 ht ⟨nH c t, rfl, bh⟩)) (fun rp τ3 u6 => ?_)
    obtain ⟨-, u7, u8⟩ := u6
    have q3 : GQ τ2 τ3 1 := gq_hx u7 (by omega)
    have g3 : GQ σ τ3 (8 * t + 2) := g2.tr q3
    have D3 := gq_FD D2 q3
    obtain ⟨i0, i1, i2, i3, i4, i5, i6⟩ := ask τ3 _ g3
    unfold DL_law_193
    rw [n_how i0 t (by omega), bnd_some, i1, chk_true, clt, i2, i3, chk_true, i4, chk_true, i5, i6, chk_true, s1]
    refine ok_bnd (l_found hI.b (h.q g3).1 (h.fg g3 ht ⟨1 - nH c t, rfl, by omega⟩ (sk := -1) (by decide))) (fun ro τ4 u9 => ?_)
    obtain ⟨-, v1, v2⟩ := u9
    have q4 : GQ τ3 τ4 1 := gq_hx v1 (by omega)
    have g4 : GQ σ τ4 (8 * t + 3) := g3.tr q4
    have D4 := gq_FD D3 q4
    unfold DL_law_219
    refine l_224 h g4 ht (gq_FD u8 q4) v2 (fun τ5 q5 => ?_) (nCo c t) 0 FU τ4 (by omega) (by unfold FU; omega) gq_rf
    unfold DL_law_356
    refine l_359 (k := 8 * t + 3) h ht (fun τ6 g6 => ?_) (nPr c) 0 FU τ5 (by omega) (by unfold FU; omega) (g4.tr q5) (gq_FD D4 q5)
    unfold DL_law_500
    rw [show nI t + (1 : Int32) = nI (t + 1) from nI_add _ _]
    exact ih (t + 1) m τ6 (by omega) (by omega) (g6.wk (by omega))
theorem isN_no {N x : Nat} (h : N ≤ x) (hx : x < 2147483648) : isN N (nI x) = false := by
  unfold isN
  rw [nI_i hx, decide_eq_false (show ¬ (x : Int) < (N : Int) by omega), Bool.and_false]
theorem l_638 (h : LI c c0 fl n σ) : Ok (DL_law_638 1024 1 σ) (fun r υ => r = 1 ∧ gM υ = gM σ ∧ gZ υ = gZ σ) := by
  have bt := nTk_b c
  have bp := nPr_b c
  have bo := nCo_b c 0
  have hI := h.2.2.1.i
  have m1 : (-1 : Int32).toInt = -1 := i_m1
  unfold DL_law_638 DL_law_681
  rw [n_tickets h.1.sc, bnd_some, c_o hI.b.c.fin, chk_true]
  refine ok_bnd (c_share0 hI (x := nI (nTk c)) (y := 0) (by unfold isC; rw [show Wf c 9 = nTk c from rfl, isN_no (Nat.le_refl _) (by omega), Bool.false_and])) (fun v1 τ1 u1 => ?_)
  have g1 : GQ σ τ1 0 := gq_fr u1.2
  have L1 := h.q g1
  rw [ckT2_fr u1.2, chk_true, if_pos (w_inj (u1.1.trans m1.symm)), c_o L1.2.2.1.i.b.c.fin, chk_true]
  refine ok_bnd (c_straight0 L1.2.2.1.i (x := 0) (y := 8) (by
    unfold isC
    rw [show (0 : Int32).toNatClampNeg = 0 from rfl, show (8 : Int32) = nI 8 from rfl, isN_no (show nCo c 0 ≤ 8 by omega) (by omega), Bool.and_false])) (fun v2 τ2 u2 => ?_)
  have g2 : GQ σ τ2 0 := g1.tr (gq_fr u2.2)
  have L2 := h.q g2
  rw [ckT2_fr u2.2, chk_true, if_pos (w_inj (u2.1.trans m1.symm)), n_provisos L2.1.sc, bnd_some, c_o L2.2.2.1.i.b.c.fin, chk_true]
  refine ok_bnd (c_without0 L2.2.2.1.i (p := nI (nPr c)) (x := 0) (y := 0) (by rw [show Wf c 5 = nPr c from rfl]; exact isN_no (Nat.le_refl _) (by omega))) (fun v3 τ3 u3 => ?_)
  rw [ckT2_fr u3.2, chk_true, if_pos (w_inj (u3.1.trans m1.symm))]
  refine ok_some.mpr ⟨rfl, ?_, ?_⟩
  · rw [(fr_eq u3.2).1, (fr_eq u2.2).1, (fr_eq u1.2).1]
  · rw [(fr_eq u3.2).2, (fr_eq u2.2).2, (fr_eq u1.2).2]
theorem l_115 : ∀ (d s m n : Nat) (fl : Nat → Nat) (σ : Sg), s + d = 8 → d < m → n ≤ s → LI c c0 fl n σ →
    Ok (DL_law_115 m 1024 1 c0 (c0 + 1) (nI s) σ) (fun r υ => r = 1 ∧ gM υ ≤ gM σ + 960 * d ∧ gZ υ ≤ gZ σ + 48000 * d) := by
  intro d
  induction d with
  | zero =>
    intro s m n fl σ hi hm hn h
    obtain ⟨m, rfl⟩ : ∃ k, m = k + 1 := ⟨m - 1, by omega⟩
    rw [DL_law_115, if_pos (show (8 : Int32) ≤ nI s by rw [show s = 8 by omega]; decide)]
    exact (l_638 h).mono (fun r υ hu => ⟨hu.1, by omega, by omega⟩)
  | succ d ih =>
    intro s m n fl σ hi hm hn h
    obtain ⟨m, rfl⟩ : ∃ k, m = k + 1 := ⟨m - 1, by omega⟩
    rw [DL_law_115, if_neg (fun z => by have := (nI_leI (a := 8) (by decide) (by omega)).mp z; omega)]
    refine l_125 h (fun τ hg => ?_) (nTk c) 0 FU σ (by omega) (by have := nTk_b c; unfold FU; omega) (gq_rf.wk (Nat.zero_le _))
    refine l_506 (h.q hg) (by omega) (by omega) (fun υ fl' n' hL hn' eM eZ => ?_)
    obtain ⟨_, _, _, _, a5, a6, a7, a8⟩ := hg
    exact (ih (s + 1) m n' fl' υ (by omega) (by omega) (by omega) hL).mono (fun r ω hw => ⟨hw.1, by have := hw.2.1; omega, by have := hw.2.2; omega⟩)
end

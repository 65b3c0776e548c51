/-! THE LAW, behind the desk -/
section
variable {c : Nat → Int32} {σ τ : Sg}
theorem IA.cg {y n : Nat} {f g : Nat → Int32} (h : IA σ y n f) (e : ∀ k, k < n → f k = g k) : IA σ y n g := by
  obtain ⟨h1, h2, h3, h4, h5⟩ := h
  exact ⟨h1, h2, h3, h4, fun j hj => (h5 j hj).trans (e j hj)⟩
theorem ai_li (hW : WT c σ) (hT : TT c σ) (h9 : gI σ 26 9 = 0) (h : AI c (2000 + gM σ) σ (nTk c) τ) : LI c (2000 + gM σ) (fun _ => 0) 0 τ := by
  obtain ⟨hx, s0, s1, hM, hv⟩ := h
  have bt := nTk_b c
  have hg : GQ σ τ 1 := gq_hx hx (by omega)
  have tb := hT.tab
  have jj := hT.jj h9
  obtain ⟨t1, t2, t3, t4, t5, t6⟩ := id tb
  obtain ⟨h0, h1, h2, h3, h4, h5, h6, h7, h8⟩ := hT
  obtain ⟨l1, l2, -⟩ := h8
  refine ⟨gq_WT hW hg, gq_tab tb hg, gq_jj jj hg, ⟨s0, s1, by omega, by omega⟩, fun t ht => ?_⟩
  obtain ⟨v1, v2, v3, v4⟩ := hv t ht
  have bo := nCo_b c t
  refine ⟨v1, v2, v3.cg (fun k hk => ?_), v4.cg (fun k hk => (if_neg (Nat.not_lt_zero k)).symm)⟩
  obtain ⟨q1, q2, q3, q4⟩ := l2 t (by omega)
  obtain ⟨p1, p2, p3, p4, p5⟩ := t6 t ht
  rw [gq_aG hg (a := 30) (by decide) (by decide), q4 k (by omega)]
  exact (p4 k hk).symm
theorem l_law4 (hW : WT c σ) (hT : TT c σ) (h9 : gI σ 26 9 = 0) : Ok (DL_law_4 1024 1 σ) (fun r υ => r = 1 ∧ gM υ ≤ gM σ + 7690 ∧ gZ υ ≤ gZ σ + 386000) := by
  have bt := nTk_b c
  have hN := hW.2
  have kn := ckn_n (n := nTk c) (by omega)
  have cln : (nI (nTk c)).toNatClampNeg = nTk c := nI_clamp (by omega)
  obtain ⟨c0, hc0⟩ : ∃ c0, c0 = 2000 + gM σ := ⟨_, rfl⟩
  have x1 : HX (fun a => a < c0) σ (mkD σ 5 (nTk c) (nTk c)) 1 := hx_mkD (by show ¬ _ < _; omega) (by omega)
  have x2 : HX (fun a => a < c0) σ (mkD (mkD σ 5 (nTk c) (nTk c)) 5 (nTk c) (nTk c)) 2 := x1.tr (hx_mkD (by show ¬ _ < _; rw [gM_mkD]; omega) (by omega))
  have W1 := hW.hx x1 (fun a ha => by show a < c0; omega)
  unfold DL_law_4 DL_law_18 DL_law_26
  rw [n_tickets hW.sc, bnd_some, kn, chk_true, show ck51 σ = true from decide_eq_true hN, chk_true, cln, wlet_eq, n_tickets W1.sc, bnd_some, kn, chk_true, show ck51 (mkD σ 5 (nTk c) (nTk c)) = true from decide_eq_true hN, chk_true, cln, wlet_eq, gM_mkD, show 2000 + (gM σ + 1) = c0 + 1 by omega, ← hc0]
  refine l_30 hW (c0 := c0) (by omega) (fun υ hA => ?_) (nTk c) 0 FU _ (by omega) (by unfold FU; omega) ⟨x2, ?_, ?_, ?_, fun t ht => absurd ht (Nat.not_lt_zero _)⟩
  · unfold DL_law_112
    have hL := ai_li hW hT h9 (by rw [← hc0]; exact hA)
    rw [← hc0] at hL
    obtain ⟨_, _, _, a5, a6, a7, a8⟩ := hA.1
    exact (l_115 8 0 FU 0 (fun _ => 0) υ (by omega) (by unfold FU; omega) (Nat.le_refl _) hL).mono (fun r ω hw => ⟨hw.1, by have := hw.2.1; omega, by have := hw.2.2; omega⟩)
  · rw [gS_mkD, gM_mkD, if_neg (by omega), gS_mkD, if_pos hc0]
  · rw [gS_mkD, gM_mkD, if_pos (by omega)]
  · rw [gM_mkD, gM_mkD]; omega
end

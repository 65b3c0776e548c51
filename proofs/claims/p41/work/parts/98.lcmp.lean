/-! THE LAW ASKS: straight, the other way, factors, provisos -/
section
variable {c : Nat → Int32} {σ τ0 : Sg} {c0 n t k0 : Nat} {fl : Nat → Nat}
theorem LI.car (h : LI c c0 fl n σ) (ht : t < nTk c) {k : Nat} (hk : k < nCo c t) : ∃ cc, aG σ 30 t k = nI cc ∧ cc < nCa c := by
  obtain ⟨x, x1, x2⟩ := ((h.2.2.1.i.l t (show t < Wf c 9 from ht)).2.2.2.2.2.1 k hk).2
  exact ⟨x, x2, x1⟩
theorem LI.fg (h : LI c c0 fl n σ) (hg : GQ σ τ0 k0) (ht : t < nTk c) {how : Int32} (hh : ∃ hw, how = nI hw ∧ hw ≤ 1) {sk : Int32} (hs : sk ≠ -2) :
    FG0 c σ τ0 (2000 + gM τ0) t (fl t) (c0 + 2 + 2 * t) (c0 + 3 + 2 * t) (aG σ 30 t) (aG σ 31 t) (fun k => if k < fl t then aG σ 31 t k else -1) how sk sk 0 := by
  obtain ⟨h1, h2, h3, ⟨a1, a2, a3, a4⟩, h5⟩ := id h
  obtain ⟨b1, b2, b3, b4⟩ := h5 t ht
  have hm := hg.2.2.2.2.1
  exact ⟨⟨h2, ht, fun k hk => h.car ht hk, hh, h3.i.cf ht⟩, ⟨gq_IA b3 hg, gq_IA b4 hg, by have := b3.2.2.1; omega, by have := b4.2.2.1; omega⟩, Or.inl ⟨rfl, rfl, hs, fun _ _ => rfl⟩⟩
theorem LI.fgp (h : LI c c0 fl n σ) (hg : GQ σ τ0 k0) (ht : t < nTk c) {how : Int32} (hh : ∃ hw, how = nI hw ∧ hw ≤ 1) :
    FG0 c σ τ0 (2000 + gM τ0) t 0 (c0 + 2 + 2 * t) (c0 + 3 + 2 * t) (aG σ 30 t) (aG σ 31 t) (fun k => if k < fl t then aG σ 31 t k else -1) how (-2) (-1) 1 := by
  obtain ⟨h1, h2, h3, ⟨a1, a2, a3, a4⟩, h5⟩ := id h
  obtain ⟨b1, b2, b3, b4⟩ := h5 t ht
  have hm := hg.2.2.2.2.1
  exact ⟨⟨h2, ht, fun k hk => h.car ht hk, hh, h3.i.cf0 ht⟩, ⟨gq_IA b3 hg, gq_IA b4 hg, by have := b3.2.2.1; omega, by have := b4.2.2.1; omega⟩, Or.inr ⟨rfl, rfl, rfl⟩⟩
theorem l_224 {K115 : Nat → Nat → Nat → Nat → Int32 → Sg → Option (Int32 × Sg)} {K125 : Nat → Nat → Nat → Nat → Int32 → Int32 → Sg → Option (Int32 × Sg)} {Q : Int32 → Sg → Prop} {l4 : Int32} {ow rp ro : Nat} (h : LI c c0 fl n σ) (hg0 : GQ σ τ0 k0) (ht : t < nTk c)
    (hP : FD c σ t 0 (aG σ 30 t) (aG σ 31 t) (nI (nH c t)) (-2) rp τ0) (hO : FD c σ t (fl t) (aG σ 30 t) (aG σ 31 t) (nI (1 - nH c t)) (-1) ro τ0)
    (hQ : ∀ υ, GQ τ0 υ 0 → Ok (DL_law_356 K115 K125 1024 1 c0 (c0 + 1) l4 (nI t) ow υ) Q) :
    ∀ (d i m : Nat) (τ : Sg), i + d = nCo c t → d < m → GQ τ0 τ 0 → Ok (DL_law_224 K115 K125 m 1024 1 c0 (c0 + 1) l4 (nI t) ow rp ro (nI i) τ) Q := by
  have bt := nTk_b c
  have bo := nCo_b c t
  have bh := nH_b c t
  have ba := nCa_b c
  have ht9 : t < Wf c 9 := ht
  have hI := h.2.2.1.i
  have e1 : aG σ (14 + 9) t 1 = nI (nH c t) := (h.2.1.2.2.2.2.2 t ht).2.1
  have clt : (nI t).toNatClampNeg = t := nI_clamp (by omega)
  have G : ∀ τ, GQ τ0 τ 0 → GQ σ τ k0 := fun τ hg => hg0.tr hg
  have L : ∀ τ, GQ τ0 τ 0 → LI c c0 fl n τ := fun τ hg => h.q (G τ hg)
  have S : ∀ τ, GQ τ0 τ 0 → Sc c τ := fun τ hg => (L τ hg).1.sc
  have k51 : ∀ τ, GQ τ0 τ 0 → ckO τ 5 1 = true := fun τ hg => c_o (gq_inv hI (G τ hg)).b.c.fin
  have x23 : ∀ τ, GQ τ0 τ 0 → aG τ (14 + 9) = aG σ (14 + 9) := fun τ hg => gq_aG (G τ hg) (a := 23) (by decide) (by decide)
  have x30 : ∀ τ, GQ τ0 τ 0 → aG τ 30 = aG σ 30 := fun τ hg => gq_aG (G τ hg) (a := 30) (by decide) (by decide)
  have x31 : ∀ τ, GQ τ0 τ 0 → aG τ 31 = aG σ 31 := fun τ hg => gq_aG (G τ hg) (a := 31) (by decide) (by decide)
  intro d
  induction d with
  | zero =>
    intro i m τ hi hm hg
    obtain ⟨m, rfl⟩ : ∃ k, m = k + 1 := ⟨m - 1, by omega⟩
    rw [DL_law_224, n_coupons (S τ hg) t (by omega), bnd_some, if_pos ((nI_leI (by omega) (by omega)).mpr (by omega))]
    exact hQ τ hg
  | succ d ih =>
    intro i m τ hi hm hg
    obtain ⟨m, rfl⟩ : ∃ k, m = k + 1 := ⟨m - 1, by omega⟩
    have hi' : i < nCo c t := by omega
    have hcl : (nI i).toNatClampNeg = i := nI_clamp (by omega)
    rw [DL_law_224, n_coupons (S τ hg) t (by omega), bnd_some, if_neg (fun z => by have := (nI_leI (by omega) (by omega)).mp z; omega), k51 τ hg, chk_true]
    refine ok_bnd (c_stra (gq_inv hI (G τ hg)) ht9 hi') (fun v1 τ1 u1 => ?_)
    have g1 : GQ τ0 τ1 0 := hg.tr (gq_fr u1.2)
    obtain ⟨p1, p2, p3, p4, p5, p6, p7, p8⟩ := gq_FD hP g1
    have ev : v1 = aI τ1 (rp + 3) i := w_inj (by rw [u1.1, (p6 i hi').1, x23 τ hg, x30 τ hg, x31 τ hg, gq_SHC (G τ hg), e1])
    rw [ckT2_fr u1.2, chk_true, p1.p, chk_true, p2, show ckV (rp + 3) = true from decide_eq_true (by omega), chk_true, p4.a hi', chk_true, hcl, if_pos ev, k51 τ1 g1, chk_true]
    refine ok_bnd (c_other (gq_inv hI (G τ1 g1)) ht9 hi') (fun v2 τ2 u2 => ?_)
    have g2 : GQ τ0 τ2 0 := g1.tr (gq_fr u2.2)
    obtain ⟨q1, q2, q3, q4, q5, q6, q7, q8⟩ := gq_FD hO g2
    have eo : (if aG σ (14 + 9) t 1 = 0 then (1 : Int32) else 0) = nI (1 - nH c t) := by
      rw [e1]
      rcases (by omega : nH c t = 0 ∨ nH c t = 1) with q | q <;> rw [q] <;> decide
    have ev2 : v2 = aI τ2 (ro + 3) i := w_inj (by rw [u2.1, (q6 i hi').1, x23 τ1 g1, x30 τ1 g1, x31 τ1 g1, gq_SHC (G τ1 g1), eo])
    rw [ckT2_fr u2.2, chk_true, q1.p, chk_true, q2, show ckV (ro + 3) = true from decide_eq_true (by omega), chk_true, q4.a hi', chk_true, if_pos ev2, k51 τ2 g2, chk_true]
    refine ok_bnd (c_coup4 (gq_inv hI (G τ2 g2)) ht9 hi') (fun v3 τ3 u3 => ?_)
    have g3 : GQ τ0 τ3 0 := g2.tr (gq_fr u3.2)
    obtain ⟨l1, l2, l3, ⟨a1, a2, a3, a4⟩, l5⟩ := id (L τ3 g3)
    obtain ⟨b1, b2, b3, b4⟩ := l5 t ht
    obtain ⟨cc, hcc, hcc2⟩ := (L τ3 g3).car ht hi'
    have v5 := (L τ3 g3).b5 ht
    obtain ⟨FV, hF1, hF2⟩ := n_factor (S τ3 g3) l2 (W := Wf c) rfl rfl (show nI (nH c t) = nI (nH c t) from rfl) bh ht hi' hcc hcc2
    have eA : aI τ3 (c0 + 2 + 2 * t) i = nI cc := (b3.2.2.2.2 i hi').trans hcc
    have e3 : v3.toInt64 = FV := l_inj (by
      rw [i_l, u3.1, hF2, x23 τ2 g2, x30 τ2 g2, e1]
      rw [gq_fcC (G τ2 g2), gq_fcC (G τ3 g3), x30 τ3 g3])
    rw [ckT2_fr u3.2, chk_true, n_how (S τ3 g3) t (by omega), bnd_some, v5.1, chk_true, clt, b1, show ckV (c0 + 2 + 2 * t) = true from decide_eq_true (by omega), chk_true, b3.a hi', chk_true, n_at (S τ3 g3) t i (by omega) (by omega), bnd_some, show nI i + (1 : Int32) = nI (i + 1) from nI_add _ _, n_at (S τ3 g3) t (i + 1) (by omega) (by omega), bnd_some, eA, hF1, bnd_some, if_pos e3, k51 τ3 g3, chk_true]
    refine ok_bnd (c_coup7 (gq_inv hI (G τ3 g3)) ht9 hi') (fun v4 τ4 u4 => ?_)
    have g4 : GQ τ0 τ4 0 := g3.tr (gq_fr u4.2)
    obtain ⟨m1, m2, m3, ⟨m4, m5, m6, m7⟩, m8⟩ := id (L τ4 g4)
    obtain ⟨d1, d2, d3, d4⟩ := m8 t ht
    have v6 := (L τ4 g4).b5 ht
    obtain ⟨cc', hcc', hcc2'⟩ := (L τ4 g4).car ht hi'
    have hh := n_holds (S τ4 g4) m2 (W := Wf c) rfl d3 (sk := -1) ht hi' (by decide) ⟨cc', hcc', by omega⟩
    have e4 : v4 = n2 (phC τ4 14 (Wf c) (nCo c t) t (-1) (aG τ4 30 t) i) := w_inj (by
      rw [u4.1, x30 τ3 g3, x30 τ4 g4, gq_phC (G τ3 g3), gq_phC (G τ4 g4)])
    rw [ckT2_fr u4.2, chk_true, v6.1, chk_true, d1, show ckV (c0 + 2 + 2 * t) = true from decide_eq_true (by omega), chk_true, hh, bnd_some, if_pos e4]
    exact ih (i + 1) m τ4 (by omega) (by omega) g4
end

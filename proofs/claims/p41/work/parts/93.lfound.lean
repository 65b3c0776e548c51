/-! THE LAW FINDS: what it makes -/
section
variable {σ τ : Sg} {f n fl : Nat}
theorem hx_pR {X : Nat → Prop} {k v : Nat} (h : ¬ X f) : HX X σ (pR σ f k v) 0 := hx_fr (l := [(f, k)]) (m := []) (Fr.rf.pR f k v (fF_in (by simp))) (fun q hq => by
  have : q = (f, k) := by simpa using hq
  rw [this]
  exact h) (fun a ha => absurd ha (List.not_mem_nil))
theorem hx_pJ {X : Nat → Prop} {k : Nat} {v : Int64} (h : ¬ X f) : HX X σ (pJ σ f k v) 0 := hx_fr (l := [(f, k)]) (m := []) (Fr.rf.pJ f k v (fF_in (by simp))) (fun q hq => by
  have : q = (f, k) := by simpa using hq
  rw [this]
  exact h) (fun a ha => absurd ha (List.not_mem_nil))
/-- the state with a new Found and all its arrays -/
def nfS (σ : Sg) (f n : Nat) : Sg := pR (mkD (pR (mkD (pR (mkD (pR (mkD (pJ (mkD σ 1 6 7) f 4 1) 4 n n) f 0 (f + 1)) 4 n n) f 1 (f + 2)) 2 n n) f 2 (f + 3)) 2 n n) f 3 (f + 4)
def nf9 (σ : Sg) (f n : Nat) : Sg := mkD (mkD (mkD (mkD (nfS σ f n) 3 n n) 4 n n) 4 n n) 2 n n
theorem nfS_M : gM (nfS σ f n) = gM σ + 5 := rfl
theorem nf9_M : gM (nf9 σ f n) = gM σ + 9 := rfl
theorem f_init (hf : f = 2000 + gM σ) (hn : n ≤ 8) (hN : gN σ = 51) : DX8_init f (nI n) (mkD σ 1 6 7) = some ((), nfS σ f n) := by
  have kn := ckn_n hn
  have cl : (nI n).toNatClampNeg = n := nI_clamp (by omega)
  have v : ∀ k, ckV (f + k) = true := fun k => decide_eq_true (by omega)
  unfold DX8_init DX8_init_13 DX8_init_20 DX8_init_27 DX8_init_34
  have h0 : ckH (mkD σ 1 6 7) 6 f = true := by
    unfold ckH
    rw [gS_mkD, gM_mkD, if_pos hf]
    simp
    omega
  have h1 : ckH (mkD (pJ (mkD σ 1 6 7) f 4 1) 4 n n) 6 f = true := by
    unfold ckH
    rw [gS_mkD, gM_mkD, gM_pJ, gM_mkD, if_neg (by omega), gS_pJ, gS_mkD, if_pos hf]
    simp
    omega
  have e1 : 2000 + gM (pJ (mkD σ 1 6 7) f 4 1) = f + 1 := by rw [gM_pJ, gM_mkD]; omega
  obtain ⟨s1, hs1⟩ : ∃ s1, pR (mkD (pJ (mkD σ 1 6 7) f 4 1) 4 n n) f 0 (f + 1) = s1 := ⟨_, rfl⟩
  have m1 : gM s1 = gM σ + 2 := by rw [← hs1]; rfl
  have n1 : gN s1 = 51 := by rw [← hs1]; exact hN
  have S1 : gS s1 f = (1, 6) := by rw [← hs1, gS_pR, gS_mkD, gM_pJ, gM_mkD, if_neg (by omega), gS_pJ, gS_mkD, if_pos hf]
  have h2 : ckH (mkD s1 4 n n) 6 f = true := by
    unfold ckH
    rw [gS_mkD, gM_mkD, m1, if_neg (by omega), S1]
    simp
    omega
  obtain ⟨s2, hs2⟩ : ∃ s2, pR (mkD s1 4 n n) f 1 (f + 2) = s2 := ⟨_, rfl⟩
  have m2 : gM s2 = gM σ + 3 := by rw [← hs2, gM_pR, gM_mkD, m1]
  have n2 : gN s2 = 51 := by rw [← hs2]; exact n1
  have S2 : gS s2 f = (1, 6) := by rw [← hs2, gS_pR, gS_mkD, m1, if_neg (by omega), S1]
  have h3 : ckH (mkD s2 2 n n) 6 f = true := by
    unfold ckH
    rw [gS_mkD, gM_mkD, m2, if_neg (by omega), S2]
    simp
    omega
  obtain ⟨s3, hs3⟩ : ∃ s3, pR (mkD s2 2 n n) f 2 (f + 3) = s3 := ⟨_, rfl⟩
  have m3 : gM s3 = gM σ + 4 := by rw [← hs3, gM_pR, gM_mkD, m2]
  have n3 : gN s3 = 51 := by rw [← hs3]; exact n2
  have S3 : gS s3 f = (1, 6) := by rw [← hs3, gS_pR, gS_mkD, m2, if_neg (by omega), S2]
  have h4 : ckH (mkD s3 2 n n) 6 f = true := by
    unfold ckH
    rw [gS_mkD, gM_mkD, m3, if_neg (by omega), S3]
    simp
    omega
  have k51 : ∀ s : Sg, gN s = 51 → ck51 s = true := fun s h => decide_eq_true h
  have n0 : gN (pJ (mkD σ 1 6 7) f 4 1) = 51 := hN
  rw [h0, chk_true, wlet_eq, kn, chk_true, k51 _ n0, chk_true, cl, wlet_eq, e1, h1, chk_true, v, chk_true, wlet_eq, hs1, chk_true, k51 _ n1, chk_true, wlet_eq, m1, show 2000 + (gM σ + 2) = f + 2 by omega, h2, chk_true, v, chk_true, wlet_eq, hs2, chk_true, k51 _ n2, chk_true, wlet_eq, m2, show 2000 + (gM σ + 3) = f + 3 by omega, h3, chk_true, v, chk_true, wlet_eq, hs3, chk_true, k51 _ n3, chk_true, wlet_eq, m3, show 2000 + (gM σ + 4) = f + 4 by omega, h4, chk_true, v, chk_true, wlet_eq, ← hs3, ← hs2, ← hs1]
  rfl
theorem nfS_x (hf : f = 2000 + gM σ) (hn : n ≤ 8) : HX (fun a => a < f) σ (nfS σ f n) 5 := by
  have x0 : HX (fun a => a < f) σ (mkD σ 1 6 7) 1 := hx_mkD (by show ¬ _ < _; omega) (by omega)
  have x1 := x0.tr (hx_pJ (f := f) (k := 4) (v := 1) (by show ¬ _ < _; omega))
  have x2 := x1.tr (hx_mkD (s := 4) (n := n) (m := n) (by show ¬ _ < _; rw [gM_pJ, gM_mkD]; omega) hn)
  have x3 := x2.tr (hx_pR (f := f) (k := 0) (v := f + 1) (by show ¬ _ < _; omega))
  have x4 := x3.tr (hx_mkD (s := 4) (n := n) (m := n) (by show ¬ _ < _; rw [gM_pR, gM_mkD, gM_pJ, gM_mkD]; omega) hn)
  have x5 := x4.tr (hx_pR (f := f) (k := 1) (v := f + 2) (by show ¬ _ < _; omega))
  have x6 := x5.tr (hx_mkD (s := 2) (n := n) (m := n) (by show ¬ _ < _; rw [gM_pR, gM_mkD, gM_pR, gM_mkD, gM_pJ, gM_mkD]; omega) hn)
  have x7 := x6.tr (hx_pR (f := f) (k := 2) (v := f + 3) (by show ¬ _ < _; omega))
  have x8 := x7.tr (hx_mkD (s := 2) (n := n) (m := n) (by show ¬ _ < _; rw [gM_pR, gM_mkD, gM_pR, gM_mkD, gM_pR, gM_mkD, gM_pJ, gM_mkD]; omega) hn)
  exact x8.tr (hx_pR (f := f) (k := 3) (v := f + 4) (by show ¬ _ < _; omega))
theorem nf9_x (hf : f = 2000 + gM σ) (hn : n ≤ 8) : HX (fun a => a < f) σ (nf9 σ f n) 9 := by
  have x0 := (nfS_x hf hn).tr (hx_mkD (s := 3) (n := n) (m := n) (by show ¬ _ < _; rw [nfS_M]; omega) hn)
  have x1 := x0.tr (hx_mkD (s := 4) (n := n) (m := n) (by show ¬ _ < _; rw [gM_mkD, nfS_M]; omega) hn)
  have x2 := x1.tr (hx_mkD (s := 4) (n := n) (m := n) (by show ¬ _ < _; rw [gM_mkD, gM_mkD, nfS_M]; omega) hn)
  exact x2.tr (hx_mkD (s := 2) (n := n) (m := n) (by show ¬ _ < _; rw [gM_mkD, gM_mkD, gM_mkD, nfS_M]; omega) hn)
/-- what is new: all is 0, but down, 1 -/
def NF (τ : Sg) (f n : Nat) : Prop :=
  FO τ f ∧ gN τ = 51 ∧ (gR τ f 0 = f + 1 ∧ gR τ f 1 = f + 2 ∧ gR τ f 2 = f + 3 ∧ gR τ f 3 = f + 4) ∧
  (AR τ 4 (f + 1) n ∧ AR τ 4 (f + 2) n ∧ AR τ 2 (f + 3) n ∧ AR τ 2 (f + 4) n ∧ AR τ 3 (f + 5) n ∧ AR τ 4 (f + 6) n ∧ AR τ 4 (f + 7) n ∧ AR τ 2 (f + 8) n) ∧
  (∀ k, aJ τ (f + 1) k = 0 ∧ aJ τ (f + 2) k = 0 ∧ aI τ (f + 4) k = 0) ∧ gJ τ f 4 = 1 ∧ gI τ f 5 = 0
theorem nf9_nf (hf : f = 2000 + gM σ) (hn : n ≤ 8) (hN : gN σ = 51) : NF (nf9 σ f n) f n := by
  have hS : ∀ x, gS (nf9 σ f n) x = if x = f + 8 then (2, n) else if x = f + 7 then (4, n) else if x = f + 6 then (4, n) else if x = f + 5 then (3, n) else if x = f + 4 then (2, n) else if x = f + 3 then (2, n) else if x = f + 2 then (4, n) else if x = f + 1 then (4, n) else if x = f then (1, 6) else gS σ x := fun x => by
    have e8 : 2000 + (gM σ + 1 + 1 + 1 + 1 + 1 + 1 + 1 + 1) = f + 8 := by omega
    have e7 : 2000 + (gM σ + 1 + 1 + 1 + 1 + 1 + 1 + 1) = f + 7 := by omega
    have e6 : 2000 + (gM σ + 1 + 1 + 1 + 1 + 1 + 1) = f + 6 := by omega
    have e5 : 2000 + (gM σ + 1 + 1 + 1 + 1 + 1) = f + 5 := by omega
    have e4 : 2000 + (gM σ + 1 + 1 + 1 + 1) = f + 4 := by omega
    have e3 : 2000 + (gM σ + 1 + 1 + 1) = f + 3 := by omega
    have e2 : 2000 + (gM σ + 1 + 1) = f + 2 := by omega
    have e1 : 2000 + (gM σ + 1) = f + 1 := by omega
    have e0 : 2000 + gM σ = f := hf.symm
    unfold nf9 nfS
    simp only [gS_mkD, gM_mkD, gS_pR, gM_pR, gS_pJ, gM_pJ, e8, e7, e6, e5, e4, e3, e2, e1, e0]
  have hM := nf9_M (σ := σ) (f := f) (n := n)
  have hf0 : 2000 ≤ f := by omega
  have ar : ∀ {s j}, gS (nf9 σ f n) (f + j) = (s, n) → j ≤ 8 → AR (nf9 σ f n) s (f + j) n := fun h hj => ⟨h, by omega, by rw [hM]; omega, hn⟩
  have hR : ∀ x y, gR (nf9 σ f n) x y = if x = f + 8 then 0 else if x = f + 7 then 0 else if x = f + 6 then 0 else if x = f + 5 then 0 else if x = f ∧ y = 3 then f + 4 else if x = f + 4 then 0 else if x = f ∧ y = 2 then f + 3 else if x = f + 3 then 0 else if x = f ∧ y = 1 then f + 2 else if x = f + 2 then 0 else if x = f ∧ y = 0 then f + 1 else if x = f + 1 then 0 else if x = f then 0 else gR σ x y := fun x y => by
    have e8 : 2000 + (gM σ + 1 + 1 + 1 + 1 + 1 + 1 + 1 + 1) = f + 8 := by omega
    have e7 : 2000 + (gM σ + 1 + 1 + 1 + 1 + 1 + 1 + 1) = f + 7 := by omega
    have e6 : 2000 + (gM σ + 1 + 1 + 1 + 1 + 1 + 1) = f + 6 := by omega
    have e5 : 2000 + (gM σ + 1 + 1 + 1 + 1 + 1) = f + 5 := by omega
    have e4 : 2000 + (gM σ + 1 + 1 + 1 + 1) = f + 4 := by omega
    have e3 : 2000 + (gM σ + 1 + 1 + 1) = f + 3 := by omega
    have e2 : 2000 + (gM σ + 1 + 1) = f + 2 := by omega
    have e1 : 2000 + (gM σ + 1) = f + 1 := by omega
    have e0 : 2000 + gM σ = f := hf.symm
    unfold nf9 nfS
    simp only [gR_mkD, gM_mkD, gR_pR, gM_pR, gR_pJ, gM_pJ, e8, e7, e6, e5, e4, e3, e2, e1, e0]
  refine ⟨⟨?_, hf0, by rw [hM]; omega⟩, hN, ⟨?_, ?_, ?_, ?_⟩, ⟨ar (j := 1) ?_ (by omega), ar (j := 2) ?_ (by omega), ar (j := 3) ?_ (by omega), ar (j := 4) ?_ (by omega), ar (j := 5) ?_ (by omega), ar (j := 6) ?_ (by omega), ar (j := 7) ?_ (by omega), ar (j := 8) ?_ (by omega)⟩, fun k => ⟨?_, ?_, ?_⟩, ?_, ?_⟩
  · rw [hS]; simp
  · rw [hR]; simp
  · rw [hR]; simp
  · rw [hR]; simp
  · rw [hR]; simp
  · rw [hS]; simp
  · rw [hS]; simp
  · rw [hS]; simp
  · rw [hS]; simp
  · rw [hS]; simp
  · rw [hS]; simp
  · rw [hS]; simp
  · rw [hS]; simp
  · unfold nf9 nfS
    simp (disch := omega) only [aJ_mkD, gM_mkD, aJ_pR, gM_pR, aJ_pJ, gM_pJ, if_neg, if_pos]
  · unfold nf9 nfS
    simp (disch := omega) only [aJ_mkD, gM_mkD, aJ_pR, gM_pR, aJ_pJ, gM_pJ, if_neg, if_pos]
  · unfold nf9 nfS
    simp (disch := omega) only [aI_mkD, gM_mkD, aI_pR, gM_pR, aI_pJ, gM_pJ, if_neg, if_pos]
  · unfold nf9 nfS
    simp (disch := omega) only [gJ_mkD, gM_mkD, gJ_pR, gM_pR, gJ_pJ, gM_pJ, if_neg, if_pos]
    exact if_pos ⟨trivial, trivial⟩
  · unfold nf9 nfS
    simp (disch := omega) only [gI_mkD, gM_mkD, gI_pR, gM_pR, gI_pJ, gM_pJ, if_neg, if_pos]
theorem WT.hx {c : Nat → Int32} {X : Nat → Prop} {k : Nat} (h : WT c σ) (hg : HX X σ τ k) (hX : ∀ a, a < 2000 → X a) : WT c τ := by
  obtain ⟨⟨L, xs, h1, h2, h3⟩, h4⟩ := h
  refine ⟨⟨L, xs, fun a b1 b2 => ?_, h2, h3⟩, hg.2.2.1.trans h4⟩
  obtain ⟨s1, s2, s3, s4, s5, s6⟩ := hg.1 a (hX a b2)
  obtain ⟨o1, o2, o3, o4⟩ := h1 a b1 b2
  exact ⟨s6.trans o1, fun j => (s4 j).trans (o2 j), fun j => (s3 j).trans (o3 j), fun j => (s1 j).trans (o4 j)⟩
theorem IA.hx {X : Nat → Prop} {y k : Nat} {car : Nat → Int32} (h : IA σ y n car) (hg : HX X σ τ k) (hX : X y) : IA τ y n car := by
  obtain ⟨h1, h2, h3, h4, h5⟩ := h
  obtain ⟨s1, s2, s3, s4, s5, s6⟩ := hg.1 y hX
  have := hg.2.2.2.1
  exact ⟨s6.trans h1, h2, by omega, h4, fun j hj => (s4 j).trans (h5 j hj)⟩
end

theorem getD_app {t u : List Nat} {i : Nat} : (t ++ u).getD i 0 = if i < t.length then t.getD i 0 else u.getD (i - t.length) 0 := by
  rw [List.getD_eq_getElem?_getD, List.getD_eq_getElem?_getD, List.getD_eq_getElem?_getD]
  by_cases h : i < t.length
  · rw [if_pos h, List.getElem?_append_left h]
  · rw [if_neg h, List.getElem?_append_right (by omega)]
theorem Lo.app {t u : List Nat} (h : Lo t) (k : Lo u) : Lo (t ++ u) := fun i hi => by
  rw [List.length_append] at hi
  rw [getD_app]
  split
  · exact h i (by omega)
  · exact k _ (by omega)
/-- letters laid behind those that stand -/
theorem SbI.ext {σ : Sg} {a c : Nat} {t u : List Nat} {f : Nat → Int32} {τ : Sg} (h : SbI σ a t c) (hu : Lo u) (hc : t.length + u.length ≤ c)
    (e0 : gS τ = gS σ) (e1 : gM τ = gM σ) (e2 : gN τ = gN σ) (e3 : gI τ a 1 = gI σ a 1) (e4 : gI τ a 3 = nI (t.length + u.length)) (e5 : gR τ a 0 = gR σ a 0) (e6 : ∀ i, i < t.length → aI τ (gR σ a 0) i = aI σ (gR σ a 0) i) (e7 : ∀ i, i < u.length → aI τ (gR σ a 0) (t.length + i) = nI (u.getD i 0)) : SbI τ a (t ++ u) c := by
  obtain ⟨a1, a2, a3, a4, a5, a6, a7, a8, a9, a10, a11, a12, a13⟩ := h
  refine ⟨by rw [e0]; exact a1, a2, by rw [e1]; exact a3, by rw [e3]; exact a4, by rw [e4, List.length_append], by rw [e5]; exact a6, by rw [e5, e1]; exact a7, by rw [e5, e0]; exact a8, by rw [List.length_append]; exact hc, a10, fun i hi => ?_, a12.app hu, by rw [e2]; exact a13⟩
  rw [List.length_append] at hi
  rw [e5, getD_app]
  split
  · rename_i h1
    rw [e6 i h1]
    exact a11 i h1
  · have := e7 (i - t.length) (by omega)
    rwa [show t.length + (i - t.length) = i by omega] at this
theorem j_put {σ : Sg} {a s c : Nat} {t u : List Nat} (h : SbI σ a t c) (hs : StI σ s u) (hc : t.length + u.length ≤ c) : DJ5_putStringAt_47b60 a (nI t.length) s σ = some ((), cpB σ (gR σ s 0) 0 (gR σ a 0) t.length u.length) := by
  have hc2 := h.2.2.2.2.2.2.2.2.2.1
  have e : ckY σ (gR σ s 0) 0 (gR σ a 0) (nI t.length) (nI u.length) = true := by
    unfold ckY
    simp only [hs.2.2.2.2.1, h.2.2.2.2.2.2.2.1, sb_cl0, nI_clamp (show t.length < 2 ^ 31 by omega), nI_clamp (show u.length < 2 ^ 31 by omega), Bool.and_eq_true, decide_eq_true_eq]
    exact ⟨⟨⟨⟨⟨⟨⟨⟨⟨⟨trivial, trivial⟩, hs.2.2.1⟩, hs.2.2.2.1⟩, h.2.2.2.2.2.1⟩, h.2.2.2.2.2.2.1⟩, by decide⟩, nI_pos' (by omega)⟩, nI_pos' (by omega)⟩, by omega⟩, by omega⟩
  have e0 : DJ5_inflateIfNeededFor_a7421 a s σ = some ((), σ) := by
    unfold DJ5_inflateIfNeededFor_a7421 DJ5_inflateIfNeededFor_a7421_21
    rw [if_neg (by decide), h.p, hs.p (by decide), chk_true, chk_true, j_coder hs, bnd_some, if_pos h.2.2.2.1]
  unfold DJ5_putStringAt_47b60 DJ0_getBytes_840e7
  rw [h.p, chk_true, e0, bnd_some]
  simp only [h.p, h.v, hs.p (show 0 < 2 by decide), hs.p (show 1 < 2 by decide), h.2.2.2.1, chk_true, bnd_some, j_coder hs, if_true, hs.v, hs.q, sb_shl0, hs.2.2.2.2.1, e, wlet_eq, sb_cl0, nI_clamp (show t.length < 2 ^ 31 by omega), nI_clamp (show u.length < 2 ^ 31 by omega)]
/-- where a builder's letters may have been laid -/
abbrev XB (σ : Sg) (a : Nat) : Nat → Prop := fun x => x = a ∨ x = gR σ a 0
theorem j_appS {σ : Sg} {a s c : Nat} {t u : List Nat} (h : SbI σ a t c) (hs : StI σ s u) (hl : t.length + u.length ≤ 800) :
    ∃ σ' c', DJ4_append_15ec4 a s σ = some (a, σ') ∧ G1 (XB σ a) σ σ' 1 ∧ SbI σ' a (t ++ u) c' ∧ (gR σ' a 0 = gR σ a 0 ∨ 2000 + gM σ ≤ gR σ' a 0) := by
  obtain ⟨τ, c', e1, g1, g2, g3, g4⟩ := j_ens (m := t.length + u.length) h hl
  have hsa : s ≠ a := fun z => by
    have h1 := h.1
    rw [← z] at h1
    rcases hs.1 with ⟨z1, z2, z3⟩ | ⟨z1, z2, z3⟩
    · rw [h1] at z1; cases z1
    · rw [h1] at z1; cases z1
  have hva : gR σ s 0 ≠ a := fun z => by
    have h1 := h.1
    rw [← z, hs.2.2.2.2.1] at h1
    cases h1
  have hs' : StI τ s u := hs.g g1 hsa hva
  have hp := j_put g2 hs' g3
  have hne := g2.ne
  refine ⟨pI (cpB τ (gR τ s 0) 0 (gR τ a 0) t.length u.length) a 3 (nI (t.length + u.length)), c', ?_, ?_, ?_, g4⟩
  · unfold DJ4_append_15ec4 DJ5_append_cf1ce DJ4_append_15ec4_5
    rw [h.p, hs.p (by decide), chk_true, chk_true, j_len hs, bnd_some, h.p, h.p, chk_true, chk_true, h.2.2.2.2.1, nI_add, e1, bnd_some, DJ5_append_cf1ce_24, g2.p, g2.p, chk_true, chk_true, g2.2.2.2.2.1, hp, bnd_some]
    rw [show ckP (cpB τ (gR τ s 0) 0 (gR τ a 0) t.length u.length) 8 3 a = true from g2.p 3, show ckH (cpB τ (gR τ s 0) 0 (gR τ a 0) t.length u.length) 8 a = true from g2.hh, gI_cpB, g2.2.2.2.2.1, nI_add]
    rfl
  · have q := ((g1.mono (Y := XB σ a) (fun _ _ z => Or.inl z) (Nat.le_refl 1)).tr (g1_cpB (σ := τ) (a0 := gR τ s 0) (sp := 0) (a := gR τ a 0) (dp := t.length) (n := u.length)) (fun x hx z => ?_)).tr (g1_pI (a := a) (k := 3) (v := nI (t.length + u.length))) (fun x _ z => Or.inl z)
    · exact q
    · rcases g4 with g4 | g4
      · exact Or.inr (z.trans g4)
      · omega
  · refine g2.ext (f := fun _ => 0) hs.2.2.2.2.2.2 g3 rfl rfl rfl ?_ ?_ rfl (fun i hi => ?_) (fun i hi => ?_)
    · rw [gI_pI, if_neg (by omega), gI_cpB]
    · rw [gI_pI, if_pos ⟨rfl, rfl⟩]
    · rw [aI_pI, aI_cpB, if_pos rfl, cpy_lo hi]
    · rw [aI_pI, aI_cpB, if_pos rfl, cpy_in (by omega) (by omega), show 0 + (t.length + i - t.length) = i by omega]
      exact hs'.2.2.2.2.2.1 i hi
theorem b128 : ∀ c, c < 128 → (nI c).toInt8.toInt32 = nI c := by decide +kernel
theorem ckB_i {σ : Sg} {v c i : Nat} (hS : gS σ v = (6, c)) (h1 : 2000 ≤ v) (h2 : v < 2000 + gM σ) (hi : i < c) (hc : c ≤ 1700) : ckB σ 6 v (nI i) = true := by
  unfold ckB
  simp [hS, h1, h2, inb_nI hi (by omega)]
theorem j_appC {σ : Sg} {a c ch : Nat} {t : List Nat} (h : SbI σ a t c) (hch : ch < 128) (hl : t.length + 1 ≤ 800) :
    ∃ σ' c', DJ4_append_cf468 a (nI ch) σ = some (a, σ') ∧ G1 (XB σ a) σ σ' 1 ∧ SbI σ' a (t ++ [ch]) c' ∧ (gR σ' a 0 = gR σ a 0 ∨ 2000 + gM σ ≤ gR σ' a 0) := by
  obtain ⟨τ, c', e1, g1, g2, g3, g4⟩ := j_ens (m := t.length + 1) h hl
  have hne := g2.ne
  have eC : DJ1_canEncode_fc78d (nI ch) τ = some (1, τ) := by
    unfold DJ1_canEncode_fc78d DJ1_canEncode_fc78d_12
    rw [if_neg (show ¬ (255 : Int32) < nI ch from nI_nlt (a := 255) (by omega) (by decide))]
    rfl
  have hc' := g2.2.2.2.2.2.2.2.2.2.1
  refine ⟨wI (pI τ a 3 (nI (t.length + 1))) (gR τ a 0) t.length (nI ch), c', ?_, ?_, ?_, g4⟩
  · unfold DJ4_append_cf468 DJ5_append_3fe6f DJ4_append_cf468_5
    rw [h.p, h.p, chk_true, chk_true, chk_true, h.2.2.2.2.1, nI_1, e1, bnd_some, DJ5_append_3fe6f_10, g2.p, chk_true, j_isl g2, bnd_some, if_neg (by decide), eC, bnd_some, if_neg (by decide), g2.p, g2.p, g2.v, g2.hh, g2.2.2.2.2.1, nI_1]
    rw [chk_true, chk_true, chk_true, chk_true, wlet_eq, ckB_i (σ := pI τ a 3 (nI (t.length + 1))) (c := c') g2.2.2.2.2.2.2.2.1 g2.2.2.2.2.2.1 g2.2.2.2.2.2.2.1 (by omega) hc', chk_true, wlet_eq, nI_clamp (by omega), b128 ch hch, b128 ch hch]
    rfl
  · have q := ((g1.mono (Y := XB σ a) (fun _ _ z => Or.inl z) (Nat.le_refl 1)).tr (g1_pI (σ := τ) (a := a) (k := 3) (v := nI (t.length + 1))) (fun x _ z => Or.inl z)).tr (g1_wI (a := gR τ a 0) (k := t.length) (v := nI ch)) (fun x hx z => ?_)
    · exact q
    · rcases g4 with g4 | g4
      · exact Or.inr (z.trans g4)
      · omega
  · refine g2.ext (f := fun _ => 0) (u := [ch]) (fun i hi => ?_) g3 rfl rfl rfl ?_ ?_ rfl (fun i hi => ?_) (fun i hi => ?_)
    · have hi : i < 1 := hi
      obtain rfl : i = 0 := by omega
      exact hch
    · rw [gI_wI, gI_pI, if_neg (by omega)]
    · rw [gI_wI, gI_pI, if_pos ⟨rfl, rfl⟩]
      rfl
    · rw [aI_wI, if_neg (by omega), aI_pI]
    · have hi : i < 1 := hi
      obtain rfl : i = 0 := by omega
      rw [aI_wI, if_pos ⟨rfl, rfl⟩]
      rfl
/-! what stands outside -/
def oSf (L a : Nat) : Nat × Nat := if a = 1024 then (2, L) else if a = 1025 then (8, 4) else if a = 1026 ∨ a = 1027 then (6, 100) else if 1030 ≤ a ∧ a < 1051 then (7, 0) else if 1060 ≤ a ∧ a < 1081 then (6, (strB.getD (a - 1060) []).length) else (0, 0)
def oIf (xs : Nat → Int32) (a j : Nat) : Int32 := if a = 1024 then xs j else if a = 1026 then nI (48 + j % 10) else if a = 1027 then nI (48 + j / 10 % 10) else if 1060 ≤ a ∧ a < 1081 then (strB.getD (a - 1060) []).getD j 0 else 0
def oRf (a j : Nat) : Nat := if a = 1025 then 1047 + j else if 1030 ≤ a ∧ a < 1051 then a + 30 else 0
def OutP (L : Nat) (xs : Nat → Int32) (σ : Sg) : Prop := ∀ a, 1000 ≤ a → a < 2000 → gS σ a = oSf L a ∧ (∀ j, aI σ a j = oIf xs a j) ∧ (∀ j, gR σ a j = oRf a j) ∧ ∀ j, gI σ a j = 0
theorem OutP.g {L : Nat} {xs : Nat → Int32} {X : Nat → Prop} {σ τ : Sg} {k : Nat} (h : OutP L xs σ) (hg : G1 X σ τ k) (hX : ∀ a, a < 2000 → ¬ X a) : OutP L xs τ := by
  intro a h1 h2
  obtain ⟨s1, s2, s3, s4, s5, s6⟩ := hg.1 a (by omega) (hX a h2)
  obtain ⟨o1, o2, o3, o4⟩ := h a h1 h2
  exact ⟨s6.trans o1, fun j => (s4 j).trans (o2 j), fun j => (s3 j).trans (o3 j), fun j => (s1 j).trans (o4 j)⟩
/-- the law's texts, as letters -/
def tx (i : Nat) : List Nat := (strB.getD i []).map (fun x => x.toNatClampNeg)
theorem tx_ok : ∀ i, i < 21 → ∀ j, j < (strB.getD i []).length → (strB.getD i []).getD j 0 = nI ((tx i).getD j 0) ∧ (tx i).getD j 0 < 128 := by
  have h : (List.range 21).all (fun i => (List.range (strB.getD i []).length).all (fun j => decide ((strB.getD i []).getD j 0 = nI ((tx i).getD j 0)) && decide ((tx i).getD j 0 < 128))) = true := by decide +kernel
  intro i hi j hj
  have h1 := List.all_eq_true.mp h i (List.mem_range.mpr hi)
  have h2 := List.all_eq_true.mp h1 j (List.mem_range.mpr hj)
  simpa using h2
theorem OutP.st {L : Nat} {xs : Nat → Int32} {σ : Sg} (h : OutP L xs σ) {i : Nat} (hi : i < 21) : StI σ (1030 + i) (tx i) := by
  obtain ⟨o1, o2, o3, o4⟩ := h (1030 + i) (by omega) (by omega)
  have eR : gR σ (1030 + i) 0 = 1060 + i := by
    rw [o3]
    unfold oRf
    rw [if_neg (by omega), if_pos (by omega)]
    omega
  obtain ⟨p1, p2, p3, p4⟩ := h (1060 + i) (by omega) (by omega)
  have eS : gS σ (1060 + i) = (6, (strB.getD i []).length) := by
    rw [p1]
    unfold oSf
    rw [if_neg (by omega), if_neg (by omega), if_neg (by omega), if_neg (by omega), if_pos (by omega), show 1060 + i - 1060 = i by omega]
  have el : (tx i).length = (strB.getD i []).length := List.length_map _
  refine ⟨Or.inr ⟨?_, by omega, by omega⟩, o4 1, by rw [eR]; omega, by rw [eR]; omega, by rw [eR, eS, el], fun j hj => ?_, fun j hj => (tx_ok i hi j (by omega)).2⟩
  · rw [o1]
    unfold oSf
    rw [if_neg (by omega), if_neg (by omega), if_neg (by omega), if_pos (by omega)]
  · rw [eR, p2]
    unfold oIf
    rw [if_neg (by omega), if_neg (by omega), if_neg (by omega), if_pos (by omega), show 1060 + i - 1060 = i by omega]
    exact (tx_ok i hi j (by omega)).1
theorem OutP.dg {L : Nat} {xs : Nat → Int32} {σ : Sg} (h : OutP L xs σ) {w : Nat} (hw : w < 100) : ckA σ 6 1026 (nI w) = true ∧ ckA σ 6 1027 (nI w) = true ∧ aI σ 1026 w = nI (48 + w % 10) ∧ aI σ 1027 w = nI (48 + w / 10) := by
  obtain ⟨o1, o2, o3, o4⟩ := h 1026 (by omega) (by omega)
  obtain ⟨p1, p2, p3, p4⟩ := h 1027 (by omega) (by omega)
  have e1 : gS σ 1026 = (6, 100) := o1
  have e2 : gS σ 1027 = (6, 100) := p1
  refine ⟨?_, ?_, o2 w, ?_⟩
  · unfold ckA
    simp [e1, inb_nI hw (by decide)]
    omega
  · unfold ckA
    simp [e2, inb_nI hw (by decide)]
    omega
  · rw [p2 w]
    show nI (48 + w / 10 % 10) = _
    rw [Nat.mod_eq_of_lt (show w / 10 < 10 by omega)]

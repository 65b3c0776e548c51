/-! THE LAW: its own arrays -/
section
variable {c : Nat → Int32} {σ τ : Sg} {c0 t : Nat}
theorem c5_of {n a : Nat} {i : Nat} (h : gS σ a = (5, n)) (h1 : 2000 ≤ a) (h2 : a < 2000 + gM σ) (hi : i < n) (hn : n < 100) : ckB σ 5 a (nI i) = true := by
  unfold ckB
  rw [h, inb_nI hi (by omega)]
  simp
  omega
theorem l_66 {K30 : Nat → Nat → Nat → Nat → Int32 → Sg → Option (Int32 × Sg)} {Q : Int32 → Sg → Prop} {ya za : Nat} (hW : WT c σ) (ht : t < nTk c) (s0 : gS σ c0 = (5, nTk c)) (s1 : gS σ (c0 + 1) = (5, nTk c)) (b0 : 2000 ≤ c0) (b1 : c0 + 1 < ya) (b2 : ya < za) (r0 : gR σ c0 t = ya) (r1 : gR σ (c0 + 1) t = za) (ay : AR σ 2 ya (nCo c t)) (az : AR σ 2 za (nCo c t))
    (hQ : ∀ υ, Fr (fF []) (fA [ya, za]) σ υ → (∀ j, j < nCo c t → aI υ ya j = nI (nCr c t j) ∧ aI υ za j = -1) → Ok (DL_law_106 K30 1024 1 c0 (c0 + 1) (nI t) υ) Q) :
    ∀ (d k m : Nat) (τ : Sg), k + d = nCo c t → d < m → Fr (fF []) (fA [ya, za]) σ τ → (∀ j, j < k → aI τ ya j = nI (nCr c t j) ∧ aI τ za j = -1) → Ok (DL_law_66 K30 m 1024 1 c0 (c0 + 1) (nI t) (nI k) τ) Q := by
  have bt := nTk_b c
  have bo := nCo_b c t
  have clt : (nI t).toNatClampNeg = t := nI_clamp (by omega)
  have hy := ay.2.2.1
  have hz := az.2.2.1
  have S : ∀ τ, Fr (fF []) (fA [ya, za]) σ τ → Sc c τ ∧ ckB τ 5 c0 (nI t) = true ∧ gR τ c0 t = ya ∧ ckB τ 5 (c0 + 1) (nI t) = true ∧ gR τ (c0 + 1) t = za := fun τ hf => by
    obtain ⟨m1, m2, m3⟩ := fr_M hf
    have x : HX (fun a => a < 2000) σ τ 0 := hx_fr hf (fun q hq => absurd hq (List.not_mem_nil)) (fun a ha => by
      have : a = ya ∨ a = za := by simpa using ha
      show ¬ a < 2000
      omega)
    exact ⟨(hW.hx x (fun a ha => ha)).sc, c5_of (by rw [m2]; exact s0) b0 (by omega) ht (by omega), (hf.R c0 t rfl).trans r0, c5_of (by rw [m2]; exact s1) (by omega) (by omega) ht (by omega), (hf.R (c0 + 1) t rfl).trans r1⟩
  intro d
  induction d with
  | zero =>
    intro k m τ hi hm hf hv
    obtain ⟨m, rfl⟩ : ∃ k, m = k + 1 := ⟨m - 1, by omega⟩
    rw [DL_law_66, n_coupons (S τ hf).1 t (by omega), bnd_some, if_pos ((nI_leI (by omega) (by omega)).mpr (by omega))]
    exact hQ τ hf (fun j hj => hv j (by omega))
  | succ d ih =>
    intro k m τ hi hm hf hv
    obtain ⟨m, rfl⟩ : ∃ k, m = k + 1 := ⟨m - 1, by omega⟩
    have hk : k < nCo c t := by omega
    have clk : (nI k).toNatClampNeg = k := nI_clamp (by omega)
    obtain ⟨e0, e1, e2, e3, e4⟩ := S τ hf
    obtain ⟨τ1, hτ1⟩ : ∃ τ1, wI τ ya k (nI (nCr c t k)) = τ1 := ⟨_, rfl⟩
    have hf1 : Fr (fF []) (fA [ya, za]) σ τ1 := by rw [← hτ1]; exact hf.wI ya k _ (fA_in (by simp))
    obtain ⟨f0, f1, f2, f3, f4⟩ := S τ1 hf1
    rw [DL_law_66, n_coupons e0 t (by omega), bnd_some, if_neg (fun z => by have := (nI_leI (by omega) (by omega)).mp z; omega), e1, chk_true, clt, e2, show ckV ya = true from decide_eq_true (by omega), chk_true, n_carrier e0 t k (by omega), bnd_some, (ay.fr hf).b hk, chk_true, clk, wlet_eq, hτ1, f3, chk_true, f4, show ckV za = true from decide_eq_true (by omega), chk_true, (az.fr hf1).b hk, chk_true, wlet_eq, show nI k + (1 : Int32) = nI (k + 1) from nI_add _ _]
    refine ih (k + 1) m _ (by omega) (by omega) (hf1.wI za k _ (fA_in (by simp))) (fun j hj => ?_)
    rw [aI_wI, if_neg (show ¬ (ya = za ∧ j = k) by omega), ← hτ1, aI_wI, aI_wI, aI_wI, if_neg (show ¬ (za = ya ∧ j = k) by omega)]
    by_cases q : j = k
    · rw [if_pos ⟨rfl, q⟩, if_pos ⟨rfl, q⟩, q]
      exact ⟨rfl, rfl⟩
    · rw [if_neg (fun z => q z.2), if_neg (fun z => q z.2)]
      exact hv j (by omega)
/-- so many tickets' arrays are made -/
def AI (c : Nat → Int32) (c0 : Nat) (σ : Sg) (i : Nat) (τ : Sg) : Prop :=
  HX (fun a => a < c0) σ τ (2 + 2 * i) ∧ gS τ c0 = (5, nTk c) ∧ gS τ (c0 + 1) = (5, nTk c) ∧ 2000 + gM τ = c0 + 2 + 2 * i ∧
  ∀ t, t < i → gR τ c0 t = c0 + 2 + 2 * t ∧ gR τ (c0 + 1) t = c0 + 3 + 2 * t ∧ IA τ (c0 + 2 + 2 * t) (nCo c t) (fun k => nI (nCr c t k)) ∧ IA τ (c0 + 3 + 2 * t) (nCo c t) (fun _ => -1)
theorem l_30 {Q : Int32 → Sg → Prop} (hW : WT c σ) (b0 : 2000 ≤ c0) (hQ : ∀ υ, AI c c0 σ (nTk c) υ → Ok (DL_law_112 1024 1 c0 (c0 + 1) υ) Q) :
    ∀ (d t m : Nat) (τ : Sg), t + d = nTk c → d < m → AI c c0 σ t τ → Ok (DL_law_30 m 1024 1 c0 (c0 + 1) (nI t) τ) Q := by
  have bt := nTk_b c
  intro d
  induction d with
  | zero =>
    intro t m τ hi hm h
    obtain ⟨m, rfl⟩ : ∃ k, m = k + 1 := ⟨m - 1, by omega⟩
    have hs := (hW.hx h.1 (fun a ha => by show a < c0; omega)).sc
    rw [DL_law_30, n_tickets hs, bnd_some, if_pos ((nI_leI (by omega) (by omega)).mpr (by omega))]
    rw [show t = nTk c by omega] at h
    exact hQ τ h
  | succ d ih =>
    intro t m τ hi hm h
    obtain ⟨m, rfl⟩ : ∃ k, m = k + 1 := ⟨m - 1, by omega⟩
    have ht : t < nTk c := by omega
    have bo := nCo_b c t
    have h8 : nCo c t ≤ 8 := by omega
    have clt : (nI t).toNatClampNeg = t := nI_clamp (by omega)
    have cln : (nI (nCo c t)).toNatClampNeg = nCo c t := nI_clamp (by omega)
    obtain ⟨hx, s0, s1, hM, hv⟩ := h
    have hlo : ∀ a, a < 2000 → (fun a => a < c0) a := fun a ha => by show a < c0; omega
    have W0 := hW.hx hx hlo
    have kn := ckn_n h8
    -- the two arrays
    obtain ⟨τ1, hτ1⟩ : ∃ τ1, mkD τ 2 (nCo c t) (nCo c t) = τ1 := ⟨_, rfl⟩
    have M1 : gM τ1 = gM τ + 1 := by rw [← hτ1]; rfl
    have x1 : HX (fun a => a < c0) σ τ1 (2 + 2 * t + 1) := by rw [← hτ1]; exact hx.tr (hx_mkD (by show ¬ _ < _; omega) h8)
    have S1 : ∀ x, gS τ1 x = if x = c0 + 2 + 2 * t then (2, nCo c t) else gS τ x := fun x => by rw [← hτ1, gS_mkD, hM]
    obtain ⟨τ2, hτ2⟩ : ∃ τ2, pR τ1 c0 t (c0 + 2 + 2 * t) = τ2 := ⟨_, rfl⟩
    have M2 : gM τ2 = gM τ + 1 := by rw [← hτ2, gM_pR]; exact M1
    have x2 : HX (fun a => a < c0) σ τ2 (2 + 2 * t + 1) := by rw [← hτ2]; exact x1.tr (hx_pR (by show ¬ _ < _; omega))
    have S2 : ∀ x, gS τ2 x = gS τ1 x := fun x => by rw [← hτ2, gS_pR]
    have W2 := hW.hx x2 hlo
    obtain ⟨τ3, hτ3⟩ : ∃ τ3, mkD τ2 2 (nCo c t) (nCo c t) = τ3 := ⟨_, rfl⟩
    have M3 : gM τ3 = gM τ + 2 := by rw [← hτ3, gM_mkD, M2]
    have x3 : HX (fun a => a < c0) σ τ3 (2 + 2 * t + 1 + 1) := by rw [← hτ3]; exact x2.tr (hx_mkD (by show ¬ _ < _; omega) h8)
    have S3 : ∀ x, gS τ3 x = if x = c0 + 3 + 2 * t then (2, nCo c t) else gS τ2 x := fun x => by rw [← hτ3, gS_mkD, M2, show 2000 + (gM τ + 1) = c0 + 3 + 2 * t by omega]
    obtain ⟨τ4, hτ4⟩ : ∃ τ4, pR τ3 (c0 + 1) t (c0 + 3 + 2 * t) = τ4 := ⟨_, rfl⟩
    have M4 : gM τ4 = gM τ + 2 := by rw [← hτ4, gM_pR]; exact M3
    have x4 : HX (fun a => a < c0) σ τ4 (2 + 2 * t + 1 + 1) := by rw [← hτ4]; exact x3.tr (hx_pR (by show ¬ _ < _; omega))
    have S4 : ∀ x, gS τ4 x = if x = c0 + 3 + 2 * t then (2, nCo c t) else if x = c0 + 2 + 2 * t then (2, nCo c t) else gS τ x := fun x => by rw [← hτ4, gS_pR, S3, S2, S1]
    have R4 : ∀ x j, x < c0 + 2 + 2 * t → gR τ4 x j = if x = c0 + 1 ∧ j = t then c0 + 3 + 2 * t else if x = c0 ∧ j = t then c0 + 2 + 2 * t else gR τ x j := fun x j hx => by
      rw [← hτ4, gR_pR, ← hτ3, gR_mkD, M2, if_neg (show ¬ x = 2000 + (gM τ + 1) by omega), ← hτ2, gR_pR, ← hτ1, gR_mkD, if_neg (show ¬ x = 2000 + gM τ by omega)]
    have A4 : ∀ x j, x < c0 + 2 + 2 * t → aI τ4 x j = aI τ x j := fun x j hx => by
      rw [← hτ4, aI_pR, ← hτ3, aI_mkD, M2, if_neg (show ¬ x = 2000 + (gM τ + 1) by omega), ← hτ2, aI_pR, ← hτ1, aI_mkD, if_neg (show ¬ x = 2000 + gM τ by omega)]
    have W4 := hW.hx x4 hlo
    have n0 : gN τ = 51 := W0.2
    have n2 : gN τ2 = 51 := W2.2
    have k1 : ckB τ1 5 c0 (nI t) = true := c5_of (by rw [S1, if_neg (by omega)]; exact s0) b0 (by omega) ht (by omega)
    have k3 : ckB τ3 5 (c0 + 1) (nI t) = true := c5_of (by rw [S3, if_neg (by omega), S2, S1, if_neg (by omega)]; exact s1) (by omega) (by omega) ht (by omega)
    have d1 : (decide ((gS τ1 (c0 + 2 + 2 * t)).1 = 2) && decide (2000 ≤ c0 + 2 + 2 * t) && decide (c0 + 2 + 2 * t < 2000 + gM τ1)) = true := by
      rw [S1, if_pos rfl]
      simp
      omega
    have d3 : (decide ((gS τ3 (c0 + 3 + 2 * t)).1 = 2) && decide (2000 ≤ c0 + 3 + 2 * t) && decide (c0 + 3 + 2 * t < 2000 + gM τ3)) = true := by
      rw [S3, if_pos rfl]
      simp
      omega
    rw [DL_law_30, n_tickets W0.sc, bnd_some, if_neg (fun z => by have := (nI_leI (by omega) (by omega)).mp z; omega), n_coupons W0.sc t (by omega), bnd_some, kn, chk_true, show ck51 τ = true from decide_eq_true n0, chk_true, cln, wlet_eq, hM, hτ1]
    unfold DL_law_50
    rw [k1, chk_true, d1, chk_true, clt, wlet_eq, hτ2, n_coupons W2.sc t (by omega), bnd_some, kn, chk_true, show ck51 τ2 = true from decide_eq_true n2, chk_true, cln, wlet_eq, M2, show 2000 + (gM τ + 1) = c0 + 3 + 2 * t by omega, hτ3]
    unfold DL_law_62
    rw [k3, chk_true, d3, chk_true, clt, wlet_eq, hτ4]
    refine l_66 (ya := c0 + 2 + 2 * t) (za := c0 + 3 + 2 * t) W4 ht (by rw [S4, if_neg (by omega), if_neg (by omega)]; exact s0) (by rw [S4, if_neg (by omega), if_neg (by omega)]; exact s1) b0 (by omega) (by omega) (by rw [R4 _ _ (by omega), if_neg (by omega), if_pos ⟨rfl, rfl⟩]) (by rw [R4 _ _ (by omega), if_pos ⟨rfl, rfl⟩]) ⟨by rw [S4, if_neg (by omega), if_pos rfl], by omega, by omega, h8⟩ ⟨by rw [S4, if_pos rfl], by omega, by omega, h8⟩ (fun υ hf hu => ?_) (nCo c t) 0 FU τ4 (by omega) (by unfold FU; omega) Fr.rf (fun j hj => absurd hj (Nat.not_lt_zero _))
    unfold DL_law_106
    rw [show nI t + (1 : Int32) = nI (t + 1) from nI_add _ _]
    obtain ⟨m1, m2, m3⟩ := fr_M hf
    have x5 : HX (fun a => a < c0) τ4 υ 0 := hx_fr hf (fun q hq => absurd hq (List.not_mem_nil)) (fun a ha => by
      have : a = c0 + 2 + 2 * t ∨ a = c0 + 3 + 2 * t := by simpa using ha
      show ¬ a < c0
      omega)
    refine ih (t + 1) m υ (by omega) (by omega) ⟨(x4.tr x5).wk (fun _ z => z) (by omega), ?_, ?_, by omega, fun t' ht' => ?_⟩
    · rw [m2, S4, if_neg (by omega), if_neg (by omega)]; exact s0
    · rw [m2, S4, if_neg (by omega), if_neg (by omega)]; exact s1
    · by_cases q : t' = t
      · subst q
        refine ⟨?_, ?_, ⟨?_, by omega, by omega, by omega, fun j hj => (hu j hj).1⟩, ⟨?_, by omega, by omega, by omega, fun j hj => (hu j hj).2⟩⟩
        · rw [hf.R c0 t' rfl, R4 _ _ (by omega), if_neg (by omega), if_pos ⟨rfl, rfl⟩]
        · rw [hf.R (c0 + 1) t' rfl, R4 _ _ (by omega), if_pos ⟨rfl, rfl⟩]
        · rw [m2, S4, if_neg (by omega), if_pos rfl]
        · rw [m2, S4, if_pos rfl]
      · obtain ⟨v1, v2, ⟨v3, v4, v5, v6, v7⟩, ⟨w3, w4, w5, w6, w7⟩⟩ := hv t' (by omega)
        refine ⟨?_, ?_, ⟨?_, by omega, by omega, v6, fun j hj => ?_⟩, ⟨?_, by omega, by omega, w6, fun j hj => ?_⟩⟩
        · rw [hf.R c0 t' rfl, R4 _ _ (by omega), if_neg (by omega), if_neg (by omega)]; exact v1
        · rw [hf.R (c0 + 1) t' rfl, R4 _ _ (by omega), if_neg (by omega), if_neg (by omega)]; exact v2
        · rw [m2, S4, if_neg (by omega), if_neg (by omega)]; exact v3
        · rw [hf.aI _ (fA_no (by simp; omega)), A4 _ _ (by omega)]; exact v7 j hj
        · rw [m2, S4, if_neg (by omega), if_neg (by omega)]; exact w3
        · rw [hf.aI _ (fA_no (by simp; omega)), A4 _ _ (by omega)]; exact w7 j hj
end

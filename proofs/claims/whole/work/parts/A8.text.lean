/-! text, of both, from steady to steady -/
theorem ok2_det {α β : Type} {c : Option (α × Sg)} {m : Option (β × Sg)} {R : α → Sg → β → Sg → Prop} {r : α} {υ : Sg} (h : Ok2 c m R) (e : c = some (r, υ)) : ∃ s ω, m = some (s, ω) ∧ R r υ s ω := by
  obtain ⟨r', υ', e', s, ω, e2, q⟩ := h
  rw [e] at e'
  cases e'
  exact ⟨s, ω, e2, q⟩
/-- what a text that is told leaves steady -/
theorem jst_new {σ υ ω : Sg} {b d n f nn : Nat} {W0 tn0 fl0 W tn : Nat → Nat} (h : Jst σ b W0 tn0 fl0 nn f) (hd : isB d) (hbd : d = 17 - b) (hn : n ≤ 1200) (F : Fr (fF (TC d)) (fA (TA d)) σ υ) (G : Fr (fF TM) (fA TMA) υ ω)
    (z : gI υ 1 1 = 0 ∧ gI ω 51 2 = 0 ∧ gI υ 25 9 = gI ω 51 31 ∧ gI υ 25 10 = gI ω 51 32) (r2 : gR υ 1 2 = d) (r3 : gR υ 1 3 = b) (L : LedO υ d υ) (g22 : gI ω 51 22 = 0) (n61 : ∀ x, x < 242 → aI ω 61 x = if x < 64 then aI ω 66 x else 0)
    (hW : W 0 ≤ n) (K : BK υ ω d W tn) (hD : ∀ x y, x < 12 → y < 12 → aI ω 60 (12 * x + y) = aG υ (d + 5) x y) : Jst ω d W tn (fun _ => 0) 0 f := by
  have hF := h.i.b.c.fin
  have hFυ : Fin0 υ := F.fin hF (by rcases hd with rfl | rfl <;> decide)
  have hFω : Fin0 ω := G.fin hFυ (by decide)
  obtain ⟨⟨c1, c2, c3⟩, bd, bn, br, bl, bt⟩ := K
  unfold BBd at bd
  have gd : ∀ j, gI ω d j = gI υ d j := fun j => G.I d j (by rcases hd with rfl | rfl <;> exact fF_no (by simp))
  have eG : ∀ a, aG ω a = aG υ a ∨ a ∈ TMA := fun a => by
    by_cases q : a ∈ TMA
    · exact Or.inr q
    · exact Or.inl (frx_G G q)
  have ed : ∀ j, j ≤ 10 → aG ω (d + j) = aG υ (d + j) := fun j hj => frx_G G (by
    rcases hd with rfl | rfl <;> simp <;> omega)
  have e30 : aG ω 30 = aG υ 30 := frx_G G (by decide)
  have e31 : aG ω 31 = aG υ 31 := frx_G G (by decide)
  have e32 : aG ω 32 = aG υ 32 := frx_G G (by decide)
  have e27 : aI ω 27 = aI υ 27 := frx_A G (by decide)
  have e28 : aI ω 28 = aI υ 28 := frx_A G (by decide)
  have e29 : aI ω 29 = aI υ 29 := frx_A G (by decide)
  have e33 : aI ω 33 = aI υ 33 := frx_A G (by decide)
  obtain ⟨L1, L2, L3⟩ := L
  refine ⟨⟨⟨⟨hFω, hd, ?_, ?_, ?_⟩, ?_, ?_, ?_, ?_⟩, ?_, fun t ht => ?_, ?_, ?_, ?_⟩, ⟨?_, ?_, ?_⟩, ⟨by omega, ?_, ?_, ?_, ?_, ?_⟩, ⟨⟨0, by omega, ?_, ?_, fun i hi => absurd hi (by omega)⟩, ?_, ?_⟩, ?_⟩
  · exact ⟨(gd 0).trans (c1 0 (by decide)).1, (gd 1).trans (c1 1 (by decide)).1, (gd 2).trans (c1 2 (by decide)).1, (gd 3).trans (c1 3 (by decide)).1, (gd 4).trans (c1 4 (by decide)).1, (gd 5).trans (c1 5 (by decide)).1, (gd 6).trans (c1 6 (by decide)).1, (gd 7).trans (c1 7 (by decide)).1, (gd 9).trans (c1 9 (by decide)).1⟩
  · exact ⟨(c1 0 (by decide)).2, (c1 1 (by decide)).2, (c1 2 (by decide)).2, (c1 3 (by decide)).2, (c1 4 (by decide)).2, (c1 5 (by decide)).2, (c1 6 (by decide)).2, (c1 7 (by decide)).2, (c1 9 (by decide)).2⟩
  · omega
  · -- rows
    unfold InvR
    rw [ed 6 (by omega), ed 7 (by omega), ed 8 (by omega)]
    exact br
  · -- miles
    intro _ x y hx hy
    rw [ed 5 (by omega)]
    exact ⟨hD x y hx hy, bl.2.2.2 x y hx hy⟩
  · -- tickets
    intro t ht
    rw [ed 5 (by omega), ed 9 (by omega), ed 10 (by omega)]
    exact (bt t ht).1
  · omega
  · exact (G.R 1 2 (by decide)).trans r2
  · -- the ledger
    have t8 : t < 8 := by omega
    obtain ⟨l1, l2, l3, l4⟩ := L2 t t8
    obtain ⟨⟨-, -, -, -, -, -, b7, b8, -, -, -⟩, b12⟩ := bt t ht
    refine ⟨?_, ?_, ?_, Or.inl ?_, ⟨Nat.zero_le _, fun k hk => absurd hk (Nat.not_lt_zero k), ?_, fun z => absurd z (show ¬ 0 = tn t by omega)⟩, fun k hk => ⟨?_, ?_⟩, fun k hk => ⟨?_, ?_⟩⟩
    · rw [e28, l2]; rfl
    · rw [e27, l1, ed 9 (by omega)]
    · rw [n61 _ (by omega), if_neg (by omega), e29, l3]
    · rw [e29, l3]
    · rw [ed 9 (by omega)]
      show (0 : Int) ≤ _
      omega
    · rw [n61 _ (by omega), if_pos (by omega), e30, l4 k (by omega)]
      exact (b12 k hk).1
    · rw [e30, l4 k (by omega)]
      exact (b12 k hk).2
    · rw [n61 _ (by omega), if_neg (by omega)]
      exact (if_neg (Nat.not_lt_zero k)).symm
    · rw [n61 _ (by omega), if_neg (by omega)]
      exact (if_neg (Nat.not_lt_zero k)).symm
  · -- bills
    intro x y hx hy
    rw [n61 _ (by omega), if_neg (by omega), e32, (L3 x hx).2 y hy]
    exact ⟨rfl, by decide, fun _ => rfl⟩
  · intro x hx
    rw [n61 _ (by omega), if_neg (by omega), e33, (L3 x hx).1]
  · unfold blT flT
    rw [e32]
    have z1 : sI (fun c => sI (fun e => (aG υ 32 c e).toInt) 0 6) 0 6 = 0 := sI_zero 6 0 (fun c _ hc => sI_zero 6 0 (fun e _ he => by rw [(L3 c (by omega)).2 e (by omega), w_0]))
    have z2 : sI (fun t => sI (fun k => (aG ω 31 t k).toInt) 0 0) 0 (W 9) = 0 := sI_zero (W 9) 0 (fun t _ _ => rfl)
    rw [z1, z2]
    exact Int.le_refl _
  · rw [ed 4 (by omega)]
    exact bl.1
  · exact bl.2.1
  · intro _
    rw [ed 5 (by omega)]
    exact bl.2.2.1
  · exact h.h.2.1
  · rw [G.I 26 10 (by decide), L1]; rfl
  · rw [g22]; rfl
  · rw [G.I 26 9 (by decide), F.I 26 9 (by rcases hd with rfl | rfl <;> decide)]
    exact h.h.2.2.2.2.1
  · exact ⟨fun _ => led ω, fun _ => fun _ => 0, rfl, rfl, fun i hi => absurd hi (by omega)⟩
  · rw [G.I 1 1 (by decide), z.1]; rfl
  · rw [z.2.1]; rfl
  · rw [G.I 25 9 (by decide)]; exact z.2.2.1
  · rw [G.I 25 10 (by decide)]; exact z.2.2.2
  · rw [G.R 1 3 (by decide), r3]
    rcases hd with rfl | rfl <;> omega
/-- what a text with a fault leaves steady -/
theorem jst_old {σ υ ω : Sg} {b d f nn : Nat} {W tn fl : Nat → Nat} (h : Jst σ b W tn fl nn f) (hd : isB d) (hbd : d = 17 - b) (F : Fr (fF (TCb d)) (fA (LA d)) σ υ) (G : Fr (fF TMb) (fA TMAb) υ ω)
    (z : gI υ 1 1 = 0 ∧ gI ω 51 2 = 0 ∧ gI υ 25 9 = gI ω 51 31 ∧ gI υ 25 10 = gI ω 51 32) (kp : ∃ g, KpA g υ ∧ KpN g υ ∧ KpA g ω ∧ KpN g ω) (hD : 0 < W 1 → ∀ x y, x < 12 → y < 12 → aI ω 60 (12 * x + y) = aG σ (b + 5) x y) : Jst ω b W tn fl nn f := by
  have hF := h.i.b.c.fin
  have hb := h.i.b.c.hb
  have bd := h.i.b.c.bd
  have hFυ : Fin0 υ := F.fin hF (by rcases hd with rfl | rfl <;> decide)
  have hFω : Fin0 ω := G.fin hFυ (by decide)
  have hne : b ≠ d := by rcases hb with rfl | rfl <;> omega
  have gF : ∀ j, j < 11 → fF (TCb d) b j = false := by
    rcases hb with rfl | rfl <;> rcases hd with rfl | rfl
    · exact absurd rfl hne
    · decide
    · decide
    · exact absurd rfl hne
  have gb : ∀ j, j < 11 → gI ω b j = gI σ b j := fun j hj => by
    rw [G.I b j (by rcases hb with rfl | rfl <;> exact fF_no (by simp)), F.I b j (gF j hj)]
  have eb : ∀ j, j ≤ 10 → aG ω (b + j) = aG σ (b + j) := fun j hj => by
    rw [frx_G G (by rcases hb with rfl | rfl <;> simp <;> omega), frx_G F (by rcases hb with rfl | rfl <;> rcases hd with rfl | rfl <;> simp at hne ⊢ <;> omega)]
  have cG : ∀ a, a ∉ TMAb → a ∉ LA d → aG ω a = aG σ a := fun a h1 h2 => (frx_G G h1).trans (frx_G F h2)
  have cA : ∀ a, a ∉ TMAb → a ∉ LA d → aI ω a = aI σ a := fun a h1 h2 => (frx_A G h1).trans (frx_A F h2)
  have dd : ∀ a, a ∈ [27, 28, 29, 30, 31, 32, 33, 34, 35, 61, 62] → a ∉ LA d := by rcases hd with rfl | rfl <;> decide
  have e27 := cA 27 (by decide) (dd 27 (by decide))
  have e28 := cA 28 (by decide) (dd 28 (by decide))
  have e29 := cA 29 (by decide) (dd 29 (by decide))
  have e33 := cA 33 (by decide) (dd 33 (by decide))
  have e61 := cA 61 (by decide) (dd 61 (by decide))
  have e62 := cA 62 (by decide) (dd 62 (by decide))
  have e30 := cG 30 (by decide) (dd 30 (by decide))
  have e31 := cG 31 (by decide) (dd 31 (by decide))
  have e32 := cG 32 (by decide) (dd 32 (by decide))
  have e34 := cG 34 (by decide) (dd 34 (by decide))
  have e35 := cG 35 (by decide) (dd 35 (by decide))
  obtain ⟨g, ⟨p1, p2, p3, p4, p5, p6, p7⟩, ⟨u3, u4, u5, u6, u7, u8, u9, u10, u11⟩, ⟨q1, q2, q3, q4, q5, q6, q7⟩, ⟨v3, v4, v5, v6, v7, v8, v9, v10, v11⟩⟩ := kp
  have uA : ∀ a, a ∈ [53, 54, 55, 56, 57, 58, 59] → aI υ a = aI σ a := fun a ha => frx_A F (by
    have : ∀ a ∈ [53, 54, 55, 56, 57, 58, 59], a ∉ LA d := by rcases hd with rfl | rfl <;> decide
    exact this a ha)
  have m53 : ∀ j, j < 72 → aI ω 53 j = aI σ 53 j := fun j hj => by rw [← q1 j hj, p1 j hj, uA 53 (by decide)]
  have m54 : ∀ j, j < 10 → aI ω 54 j = aI σ 54 j := fun j hj => by rw [← q2 j hj, p2 j hj, uA 54 (by decide)]
  have m55 : ∀ j, j < 96 → aI ω 55 j = aI σ 55 j := fun j hj => by rw [← q3 j hj, p3 j hj, uA 55 (by decide)]
  have m56 : ∀ j, j < 64 → aI ω 56 j = aI σ 56 j := fun j hj => by rw [← q4 j hj, p4 j hj, uA 56 (by decide)]
  have m57 : ∀ j, j < 32 → aI ω 57 j = aI σ 57 j := fun j hj => by rw [← q5 j hj, p5 j hj, uA 57 (by decide)]
  have m58 : ∀ j, j < 64 → aI ω 58 j = aI σ 58 j := fun j hj => by rw [← q6 j hj, p6 j hj, uA 58 (by decide)]
  have m59 : ∀ j, j < 64 → aI ω 59 j = aI σ 59 j := fun j hj => by rw [← q7 j hj, p7 j hj, uA 59 (by decide)]
  have uI : ∀ c, c ∈ [3, 4, 5, 6, 7, 8, 9, 10, 11, 22] → gI υ 51 c = gI σ 51 c := fun c hc => F.I 51 c (by
    have : ∀ c ∈ [3, 4, 5, 6, 7, 8, 9, 10, 11, 22], fF (TCb d) 51 c = false := by rcases hd with rfl | rfl <;> decide
    exact this c hc)
  have LGe : ∀ x y, LG ω W x y = LG σ W x y := fun x y => lgR_cg (W 3) 0 (fun k _ hk => ⟨m53 _ (by omega), m53 _ (by omega), m53 _ (by omega)⟩)
  have LE : led ω = led σ := by
    unfold led
    rw [e28, e29, e30, e31, e32, e33]
  have hi := h.i
  obtain ⟨⟨⟨-, -, x1, x2, x3⟩, ⟨r1, r2, r3⟩, hM, hk, h7⟩, t12, hl, hg⟩ := hi
  obtain ⟨d1, d2, d3⟩ := h.d
  obtain ⟨h1, h2, h3, h4, h5, h6⟩ := h.h
  refine ⟨⟨⟨⟨hFω, hb, ?_, ?_, x3⟩, ⟨fun i hi => ?_, fun i hi => ?_, fun i hi => ?_⟩, fun hw x y hx hy => ?_, fun t ht => ?_, h7⟩, ?_, ?_, ?_⟩, ⟨?_, fun i hi => ?_, ?_⟩, ⟨h1, h2, ?_, ?_, ?_, ?_⟩, ⟨⟨0, by omega, ?_, ?_, fun i hi => absurd hi (by omega)⟩, ?_, ?_⟩, ?_⟩
  · rw [gb 0 (by omega), gb 1 (by omega), gb 2 (by omega), gb 3 (by omega), gb 4 (by omega), gb 5 (by omega), gb 6 (by omega), gb 7 (by omega), gb 9 (by omega)]
    exact x1
  · rw [← v3, ← v4, ← v5, ← v6, ← v7, ← v8, ← v9, ← v10, ← v11, u3, u4, u5, u6, u7, u8, u9, u10, u11, uI 3 (by decide), uI 4 (by decide), uI 5 (by decide), uI 6 (by decide), uI 7 (by decide), uI 8 (by decide), uI 9 (by decide), uI 10 (by decide), uI 11 (by decide)]
    exact x2
  · rw [m54 _ (by omega), m54 _ (by omega), eb 6 (by omega)]
    exact r1 i hi
  · rw [m55 _ (by omega), m55 _ (by omega), m55 _ (by omega), m55 _ (by omega), m55 _ (by omega), m55 _ (by omega), eb 7 (by omega)]
    exact r2 i hi
  · rw [m56 _ (by omega), m56 _ (by omega), m56 _ (by omega), m56 _ (by omega), eb 8 (by omega)]
    exact r3 i hi
  · rw [hD hw x y hx hy, eb 5 (by omega)]
    exact ⟨rfl, (hM hw x y hx hy).2⟩
  · rw [m57 _ (by omega), m57 _ (by omega), m57 _ (by omega), m57 _ (by omega), eb 5 (by omega), eb 9 (by omega), eb 10 (by omega)]
    obtain ⟨a1, a2, a3, a4, a5, a6, a7, a8, a9, a10, a11⟩ := hk t ht
    refine ⟨a1, a2, a3, a4, a5, a6, a7, a8, a9, fun k hk => ?_, a11⟩
    rw [m58 _ (by omega), m59 _ (by omega)]
    exact a10 k hk
  · rw [G.R 1 2 (by decide), F.R 1 2 (by rcases hd with rfl | rfl <;> decide)]
    exact t12
  · unfold InvL CfOK
    rw [e27, e28, e29, e30, e31, e61, eb 9 (by omega)]
    exact hl
  · unfold InvG blT flT
    rw [e31, e32, e33, e61]
    exact hg
  · intro x y hx hy
    rw [eb 4 (by omega), LGe]
    exact d1 x y hx hy
  · obtain ⟨x, y, y1, y2, y3, y4, y5, y6⟩ := d2 i hi
    refine ⟨x, y, y1, y2, y3, ?_, ?_, ?_⟩
    · rw [m53 _ (by omega)]; exact y4
    · rw [m53 _ (by omega)]; exact y5
    · rw [m53 _ (by omega)]; exact y6
  · intro hw
    rw [eb 5 (by omega)]
    exact clo_cg (d3 hw) (fun x y _ _ => by rw [LGe]) (fun _ _ _ _ => rfl)
  · rw [G.I 26 10 (by decide), F.I 26 10 (by rcases hd with rfl | rfl <;> decide)]; exact h3
  · rw [G.I 51 22 (by decide), uI 22 (by decide)]; exact h4
  · rw [G.I 26 9 (by decide), F.I 26 9 (by rcases hd with rfl | rfl <;> decide)]; exact h5
  · obtain ⟨B, Fl, y1, y2, y3⟩ := h6
    refine ⟨B, Fl, by rw [LE]; exact y1, y2, fun i hi => ?_⟩
    rw [e34, e35, e62, eb 9 (by omega)]
    obtain ⟨w1, w2⟩ := y3 i hi
    exact ⟨good_tab w1 (eb 9 (by omega)), w2⟩
  · rw [G.I 1 1 (by decide), z.1]; rfl
  · rw [z.2.1]; rfl
  · rw [G.I 25 9 (by decide)]; exact z.2.2.1
  · rw [G.I 25 10 (by decide)]; exact z.2.2.2
  · rw [G.R 1 3 (by decide), F.R 1 3 (by rcases hd with rfl | rfl <;> decide)]
    exact h.2.2.2.2
theorem s_text {σ : Sg} {b n f : Nat} {W tn fl : Nat → Nat} (h : Jst σ b W tn fl n f) (N : Int32) : StpJ σ (DX7_text 1 N) (DX8_text 51 N) := by
  have hF := h.i.b.c.fin
  have hb := h.i.b.c.hb
  have bd := h.i.b.c.bd
  obtain ⟨p, hp, c1, m2, tp⟩ := h.t.1
  have no : N < 0 ∨ (¬ N < 0 ∧ ¬ N ≤ nI p) → StpJ σ (DX7_text 1 N) (DX8_text 51 N) := fun hN => by
    have F0 : Fr (fF QF) (fA QA) σ (pI σ 51 0 0) := Fr.rf.pI 51 0 _ (by decide)
    have hF1 : Fin0 (pI σ 51 0 0) := hF
    have m2' : gI (pI σ 51 0 0) 51 2 = nI p := m2
    refine ⟨-2, σ, pI σ 51 0 0, ?_, ?_, b, W, tn, fl, n, f, h.fr F0⟩
    · unfold DX7_text DX7_text_12
      rcases hN with q | ⟨q1, q2⟩
      · rw [if_pos q]
      · rw [if_neg q1, c_o hF, chk_true, c1, if_neg q2]
    · unfold DX8_text DX8_text_17
      rcases hN with q | ⟨q1, q2⟩
      · rw [m_ck hF, chk_true, wlet_eq, if_pos q]
      · rw [m_ck hF, chk_true, wlet_eq, if_neg q1, m_ck hF1, chk_true, m2', if_neg q2]
  by_cases q1 : N < 0
  · exact no (Or.inl q1)
  by_cases q2 : N ≤ nI p
  rotate_left
  · exact no (Or.inr ⟨q1, q2⟩)
  obtain ⟨nn, hnn⟩ : ∃ nn, nn ≤ p ∧ N = nI nn := by
    rw [Int32.lt_iff_toInt_lt, w_0] at q1
    rw [Int32.le_iff_toInt_le, nI_toInt (by omega)] at q2
    refine ⟨N.toInt.toNat, by omega, Int32.toInt_inj.mp ?_⟩
    rw [nI_toInt (by omega)]
    omega
  obtain ⟨hn, rfl⟩ := hnn
  have hd : isB (17 - b) := by
    rcases hb with rfl | rfl
    · exact Or.inr rfl
    · exact Or.inl rfl
  obtain ⟨d, hdd⟩ : ∃ d, d = 17 - b := ⟨_, rfl⟩
  rw [← hdd] at hd
  have r3 : gR σ 1 3 = d := h.2.2.2.2.trans hdd.symm
  -- all ways, as the model lays them
  obtain ⟨D0, hD0⟩ : ∃ D0 : Nat → Nat → Int32, Clo (fun x y => (LG σ W x y).toInt) (fun x y => (D0 x y).toInt) := by
    obtain ⟨_, ω0, -, hw0⟩ := m_lyW (W := W) hF h.i.b.c.m.2.2.2.1 bd.2.2.2.1 (fun x y hx hy => by
      rcases h.d.lg bd.2.1 hx hy with z | z
      · exact Or.inl z
      · exact Or.inr ⟨z.1, z.2.1⟩)
    exact ⟨fun x y => aI ω0 60 (12 * x + y), hw0.2⟩
  -- the model starts at a state that has the same as the first
  have RUN : ∀ ρ, Fr (fF (TC d)) (fA (TA d)) σ ρ → Ok2 (DX7_text 1 (nI nn) σ) (DX8_text 51 (nI nn) ρ) (QT σ ρ b d nn D0) := fun ρ hρ => by
    have hM : Fin0 ρ := hρ.fin hF (by rcases hd with rfl | rfl <;> decide)
    refine txt_run (T := aI σ 2) hF hM hb hd h.i.t r3 hn hp c1 ?_ (fun _ _ => rfl) (fun i hi => ?_) (fun i hi => (tp i (by omega)).2) (fun g ρ' h1 h2 h3 h4 h5 => ?_)
    · rw [hρ.I 51 2 (by rcases hd with rfl | rfl <;> decide)]; exact m2
    · rw [hρ.aI 52 (by rcases hd with rfl | rfl <;> decide)]
      exact (tp i (by omega)).1.symm
    · have e53 : ∀ j, j < 72 → aI ρ' 53 j = aI σ 53 j := fun j hj => by
        rw [← h4.1 j hj, h2.1 j hj, hρ.aI 53 (by rcases hd with rfl | rfl <;> decide)]
      have e5 : gI ρ' 51 5 = nI (W 3) := by
        rw [← h5.2.2.1, h3.2.2.1, hρ.I 51 5 (by rcases hd with rfl | rfl <;> decide)]
        exact h.i.b.c.m.2.2.2.1
      have LGe : ∀ x y, LG ρ' W x y = LG σ W x y := fun x y => lgR_cg (W 3) 0 (fun k _ hk => ⟨e53 _ (by omega), e53 _ (by omega), e53 _ (by omega)⟩)
      refine (m_lyW (W := W) h1 e5 bd.2.2.2.1 (fun x y hx hy => ?_)).mono (fun _ ω hw => ⟨hw.1, fun x y hx hy => ?_⟩)
      · rw [LGe]
        rcases h.d.lg bd.2.1 hx hy with z | z
        · exact Or.inl z
        · exact Or.inr ⟨z.1, z.2.1⟩
      · have C : Clo (fun x y => (LG σ W x y).toInt) (fun x y => (aI ω 60 (12 * x + y)).toInt) := clo_cg hw.2 (fun x y _ _ => by rw [LGe]) (fun _ _ _ _ => rfl)
        exact Int32.toInt_inj.mp (clo_uniq C hD0 hx hy)
  obtain ⟨r, υ, e, s0, ω0, -, q0⟩ := RUN σ Fr.rf
  obtain ⟨s, ω, e2, qs, qF, qz, q⟩ := ok2_det (RUN υ q0.2.1) e
  subst qs
  rcases q with ⟨a1, a2, a3, a4⟩ | ⟨a1, a2, a3, a4, a5, a6, W', tn', a7, a8, a9⟩
  · exact ⟨s, υ, ω, e, e2, b, W, tn, fl, n, f, jst_old h hd hdd a1 a2 qz a3 (fun hw x y hx hy => (a4 x y hx hy).trans (Int32.toInt_inj.mp (clo_uniq hD0 (h.d.2.2 hw) hx hy)))⟩
  · exact ⟨s, υ, ω, e, e2, d, W', tn', fun _ => 0, 0, f, jst_new h hd hdd (by omega) qF a1 qz a2 a3 a4 a5 a6 a7 a8 a9⟩

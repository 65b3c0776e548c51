/-! THE LAW ACTS: a flight, another carrier -/
section
variable {c : Nat → Int32} {σ υ : Sg} {c0 n n' : Nat} {fl fl' : Nat → Nat}
theorem g1_w {a j : Nat} {v : Int32} (ha : 1000 ≤ a) : Gx (fF QF) (fA QA) (fun x => x = a) σ (wI σ a j v) 0 := g1_wI.gx (fun x hx => by omega)
theorem li_step {a j : Nat} {v : Int32} (h : LI c c0 fl n σ) (hf : Fr (fF CFd) (fA CAr) σ υ) (hJ : JJ υ 14 (Wf c) (nCo c) fl' n') (ha : c0 + 2 ≤ a)
    (h1 : ∀ t, t < nTk c → ∀ k, k < nCo c t → (if c0 + 2 + 2 * t = a ∧ k = j then v else aG σ 30 t k) = aG υ 30 t k)
    (h2 : ∀ t, t < nTk c → ∀ k, k < nCo c t → (if c0 + 3 + 2 * t = a ∧ k = j then v else if k < fl t then aG σ 31 t k else -1) = if k < fl' t then aG υ 31 t k else -1) :
    LI c c0 fl' n' (wI υ a j v) := by
  obtain ⟨l1, l2, l3, ⟨a1, a2, a3, a4⟩, l5⟩ := h
  have g : Gx (fF CFd) (fA CAr) (fun _ => False) σ υ 0 := hf.gx (by decide) (by decide)
  have eM := (fr_M hf).1
  have eS := (fr_M hf).2.1
  have hi : ∀ x, 1000 ≤ x → (∀ k, gR υ x k = gR σ x k) ∧ ∀ k, aI υ x k = aI σ x k := fun x hx => ⟨fun k => hf.R x k (hi_F (by decide) hx), fun k => hf.aI x (hi_A (by decide) hx) k⟩
  have t2 : Tab c υ := tab_of l2 (funext fun x => funext fun y => hf.aG 19 (by decide) x y) (funext fun x => funext fun y => hf.aG 20 (by decide) x y) (funext fun x => funext fun y => hf.aG 21 (by decide) x y) (funext fun x => funext fun y => hf.aG 22 (by decide) x y) (funext fun x => funext fun y => hf.aG 23 (by decide) x y) (funext fun x => funext fun y => hf.aG 24 (by decide) x y) (hf.I 14 7 (by decide))
  have w2 : WT c υ := l1.x g (fun _ _ z => z)
  have gw : Gx (fF QF) (fA QA) (fun x => x = a) υ (wI υ a j v) 0 := g1_w (by omega)
  refine ⟨w2.x gw (fun x hx => by omega), gq_tab t2 gw, gq_jj hJ gw, ⟨?_, ?_, a3, ?_⟩, fun t ht => ?_⟩
  · show gS υ c0 = _
    rw [eS]; exact a1
  · show gS υ (c0 + 1) = _
    rw [eS]; exact a2
  · show _ ≤ 2000 + gM υ
    rw [eM]; exact a4
  · obtain ⟨b1, b2, ⟨b3, b4, b5, b6, b7⟩, ⟨d3, d4, d5, d6, d7⟩⟩ := l5 t ht
    refine ⟨((hi c0 (by omega)).1 t).trans b1, ((hi (c0 + 1) (by omega)).1 t).trans b2, ⟨?_, b4, ?_, b6, fun k hk => ?_⟩, ⟨?_, d4, ?_, d6, fun k hk => ?_⟩⟩
    · show gS υ _ = _
      rw [eS]; exact b3
    · show _ < 2000 + gM υ
      rw [eM]; exact b5
    · rw [aI_wI, (hi _ (by omega)).2, b7 k hk]
      exact h1 t ht k hk
    · show gS υ _ = _
      rw [eS]; exact d3
    · show _ < 2000 + gM υ
      rw [eM]; exact d5
    · rw [aI_wI, (hi _ (by omega)).2, d7 k hk]
      exact h2 t ht k hk
theorem l_506 {K115 : Nat → Nat → Nat → Nat → Int32 → Sg → Option (Int32 × Sg)} {Q : Int32 → Sg → Prop} {s : Nat} (h : LI c c0 fl n σ) (hs : s < 8) (hn : n < 14)
    (hQ : ∀ υ fl' n', LI c c0 fl' n' υ → n' ≤ n + 1 → gM υ = gM σ → gZ υ = gZ σ → Ok (K115 1024 1 c0 (c0 + 1) (nI (s + 1)) υ) Q) : Ok (DL_law_506 K115 1024 1 c0 (c0 + 1) (nI s) σ) Q := by
  have bt := nTk_b c
  have ba := nCa_b c
  have hI := h.2.2.1.i
  have hS := h.1.sc
  obtain ⟨l1, l2, l3, ⟨a1, a2, a3, a4⟩, l5⟩ := id h
  obtain ⟨x, hx⟩ : ∃ x, c (19 + s) = x := ⟨_, rfl⟩
  obtain ⟨t, ht⟩ : ∃ t, inF (x / 4) (nTk c) = t := ⟨_, rfl⟩
  have htl : t < nTk c := by rw [← ht]; exact inF_lt (by omega)
  have bo := nCo_b c t
  obtain ⟨k, hk⟩ : ∃ k, inF (x / 16) (nCo c t) = k := ⟨_, rfl⟩
  have hkl : k < nCo c t := by rw [← hk]; exact inF_lt (by omega)
  obtain ⟨d, hd⟩ : ∃ d, inF (x / 128) (nCa c) = d := ⟨_, rfl⟩
  have hdl : d < nCa c := by rw [← hd]; exact inF_lt (by omega)
  have hm3 := inF_lt (x := x) (show 0 < 3 by decide)
  have ht9 : t < Wf c 9 := htl
  have hd2 : d < Wf c 2 := hdl
  have clt : (nI t).toNatClampNeg = t := nI_clamp (by omega)
  have clk : (nI k).toNatClampNeg = k := nI_clamp (by omega)
  have n1 : nI s + (1 : Int32) = nI (s + 1) := nI_add _ _
  obtain ⟨b1, b2, b3, b4⟩ := l5 t htl
  have v5 := h.b5 htl
  have i1 : DL_in (x / 4) (nI (nTk c)) σ = some (nI t, σ) := by rw [n_in (k := nTk c) rfl (by omega) (by omega), ht]
  have i2 : DL_in (x / 16) (nI (nCo c t)) σ = some (nI k, σ) := by rw [n_in (k := nCo c t) rfl (by omega) (by omega), hk]
  have i3 : ∀ τ, DL_in (x / 128) (nI (nCa c)) τ = some (nI d, τ) := fun τ => by rw [n_in (k := nCa c) rfl (by omega) (by omega), hd]
  have k51 : ckO σ 5 1 = true := c_o hI.b.c.fin
  unfold DL_law_506 DL_law_585 DL_law_632
  rw [show (19 : Int32) + nI s = nI (19 + s) from nI_add _ _, hS (19 + s) (by omega), bnd_some, hx, show ckN (4 : Int32) = true by decide, chk_true, n_tickets hS, bnd_some, i1, bnd_some, show ckN (16 : Int32) = true by decide, chk_true, n_coupons hS t (by omega), bnd_some, i2, bnd_some, n_in (m := 3) (k := 3) rfl (by decide) (by decide), bnd_some]
  by_cases q : inF x 3 = 0
  · rw [if_pos (by rw [q]; decide), show ckN (128 : Int32) = true by decide, chk_true, n_carriers hS, bnd_some, i3, bnd_some, k51, chk_true]
    refine ok_bnd (c_endorse l3 hn ht9 hkl hd2) (fun r υ hu => ?_)
    rcases hu with ⟨r0, rfl, -⟩ | ⟨hfk, r0, hf, hJ, e30, e31⟩
    · rw [show ckT2 υ υ = true by unfold ckT2; simp, chk_true, if_pos (show r < 0 from i_lt.mpr (by rw [w_0]; exact r0)), n1]
      exact hQ υ fl n h (by omega) rfl rfl
    · have g : Gx (fF CFd) (fA CAr) (fun _ => False) σ υ 0 := hf.gx (by decide) (by decide)
      have hS2 : Sc c υ := (l1.x g (fun _ _ z => z)).sc
      obtain ⟨m1, m2, m3⟩ := fr_M hf
      have c5 : ckB υ 5 c0 (nI t) = true := by
        have := v5.1
        unfold ckB at this ⊢
        rw [m1, m2]
        exact this
      have c2 : ckB υ 2 (c0 + 2 + 2 * t) (nI k) = true := by
        unfold ckB
        rw [m1, m2, b3.1, inb_nI hkl (by omega)]
        simp
        have := b3.2.2.1
        omega
      rw [ckT2_fr hf, chk_true, if_neg (show ¬ r < 0 from fun z => by have := i_lt.mp z; rw [w_0] at this; omega), c5, chk_true, clt, hf.R c0 t (hi_F (by decide) (by omega)), b1, show ckV (c0 + 2 + 2 * t) = true from decide_eq_true (by omega), chk_true, chk_true, n_carriers hS2, bnd_some, i3, bnd_some, c2, chk_true, clk, wlet_eq, n1]
      refine hQ _ fl (n + 1) (li_step h hf hJ (by omega) (fun t' ht' k' hk' => ?_) (fun t' ht' k' hk' => ?_)) (Nat.le_refl _) m1 (fr_eq hf).2
      · rw [e30]
        unfold up2
        by_cases z : t' = t ∧ k' = k
        · rw [if_pos (by omega), if_pos z]
        · rw [if_neg (by omega), if_neg z]
      · rw [e31, if_neg (by omega)]
  · rw [if_neg (fun z => by have := (nI_leI (b := 0) (by omega) (by decide)).mp z; omega), k51, chk_true]
    refine ok_bnd (c_share hI ht9 hkl) (fun due τ1 u1 => ?_)
    have g1 : GQ σ τ1 0 := gq_fr u1.2
    have L1 := h.q g1
    obtain ⟨p1, p2, p3, ⟨p4, p5, p6, p7⟩, p8⟩ := id L1
    obtain ⟨q1, q2, q3, q4⟩ := p8 t htl
    have w5 := L1.b5 htl
    have shb := hI.shb ht9 hkl
    rw [ckT2_fr u1.2, chk_true, c_o p3.i.b.c.fin, chk_true]
    refine ok_bnd (c_fly p3 hn ht9 hkl) (fun r υ hu => ?_)
    rcases hu with ⟨r0, rfl, -⟩ | ⟨hfk, r0, hf, hJ, e30, e31⟩
    · rw [show ckT2 υ υ = true by unfold ckT2; simp, chk_true, if_pos (show r < 0 from i_lt.mpr (by rw [w_0]; exact r0)), n1]
      exact hQ υ fl n L1 (by omega) (fr_M u1.2).1 (fr_eq u1.2).2
    · obtain ⟨m1, m2, m3⟩ := fr_M hf
      have er : due = r := w_inj (by rw [u1.1, r0]; exact (congrFun (gq_shN g1) k).symm)
      have r1 : 0 ≤ r.toInt := by rw [← er, u1.1]; exact shb.1
      have c5 : ckB υ 5 (c0 + 1) (nI t) = true := by
        have := w5.2
        unfold ckB at this ⊢
        rw [m1, m2]
        exact this
      have c2 : ckB υ 2 (c0 + 3 + 2 * t) (nI k) = true := by
        unfold ckB
        rw [m1, m2, q4.1, inb_nI hkl (by omega)]
        simp
        have := q4.2.2.1
        omega
      rw [ckT2_fr hf, chk_true, if_neg (show ¬ r < 0 from fun z => by have := i_lt.mp z; rw [w_0] at this; omega), c5, chk_true, clt, hf.R (c0 + 1) t (hi_F (by decide) (by omega)), q2, show ckV (c0 + 3 + 2 * t) = true from decide_eq_true (by omega), chk_true, c2, chk_true, clk, wlet_eq, n1, er]
      refine hQ _ _ (n + 1) (li_step L1 hf hJ (by omega) (fun t' ht' k' hk' => ?_) (fun t' ht' k' hk' => ?_)) (Nat.le_refl _) (m1.trans (fr_M u1.2).1) ((fr_eq hf).2.trans (fr_eq u1.2).2)
      · rw [e30, if_neg (by omega)]
      · rw [e31]
        unfold up2 upF
        by_cases z : t' = t
        · subst z
          rw [if_pos rfl]
          by_cases y : k' = k
          · rw [if_pos ⟨rfl, y⟩, if_pos (by omega), if_pos ⟨rfl, y⟩]
          · rw [if_neg (fun w => y w.2), if_neg (show ¬ (t' = t' ∧ k' = k) from fun w => y w.2)]
            by_cases w : k' < fl t'
            · rw [if_pos w, if_pos (by omega)]
            · rw [if_neg w, if_neg (by omega)]
        · rw [if_neg (by omega), if_neg z, if_neg (show ¬ (t' = t ∧ k' = k) from fun w => z w.1)]
end

/-! two readers beside each other -/
def PR (T : Nat → Int32) (n : Nat) (τ μ τ' μ' : Sg) (pt q a : Nat) : Prop := CS T n τ' pt q a ∧ MS T n μ' q a ∧ Fr (fF RdC) (fA []) τ τ' ∧ Fr (fF RdM) (fA []) μ μ' ∧ gI μ' 51 29 = 0
theorem pr_tk {α β : Type} {T : Nat → Int32} {n pt q a E : Nat} {τ μ τ1 μ1 τ2 μ2 : Sg} {v w r : α} {v' s : β} (P : PR T n τ μ τ1 μ1 pt q a) (c : TkC T n q a E v w τ1 r τ2) (m : TkM T n q a E v' μ1 s μ2) :
    (E = 0 ∧ r = v ∧ s = v' ∧ PR T n τ μ τ2 μ2 q (nxP T n a) (nxA T n (nxP T n a))) ∨ (E ≠ 0 ∧ r = w ∧ FC (nI E) q τ2 ∧ FM (nI E) q μ2 ∧ Fr (fF RdC) (fA []) τ τ2 ∧ Fr (fF RdM) (fA []) μ μ2) := by
  obtain ⟨p1, p2, p3, p4, p5⟩ := P
  obtain ⟨c1, c2, c3⟩ := c
  obtain ⟨m1, m2, m3⟩ := m
  by_cases h : E = 0
  · obtain ⟨x1, x2⟩ := c2 h
    obtain ⟨y1, y2, y3⟩ := m2 h
    exact Or.inl ⟨h, x1, y1, x2, y2, p3.trans c1, p4.trans m1, y3⟩
  · obtain ⟨x1, x2⟩ := c3 h
    exact Or.inr ⟨h, x1, x2, m3 h, p3.trans c1, p4.trans m1⟩
theorem pr_go {T : Nat → Int32} {n pt q a : Nat} {τ μ τ1 μ1 τ2 μ2 : Sg} (P : PR T n τ μ τ1 μ1 pt q a) (c : Fr (fF RdC) (fA []) τ1 τ2 ∧ CNx T n q a τ2) (m : Fr (fF RdM) (fA []) μ1 μ2 ∧ MNx T n a μ2 ∧ gI μ2 51 29 = 0) : PR T n τ μ τ2 μ2 q (nxP T n a) (nxA T n (nxP T n a)) :=
  ⟨c.2, m.2.1, P.2.2.1.trans c.1, P.2.2.2.1.trans m.1, m.2.2⟩
theorem PR.hF {T : Nat → Int32} {n pt q a : Nat} {τ μ τ1 μ1 : Sg} (P : PR T n τ μ τ1 μ1 pt q a) : Fin0 τ1 := P.1.1
theorem PR.hM {T : Nat → Int32} {n pt q a : Nat} {τ μ τ1 μ1 : Sg} (P : PR T n τ μ τ1 μ1 pt q a) : Fin0 μ1 := P.2.1.1
theorem PR.an {T : Nat → Int32} {n pt q a : Nat} {τ μ τ1 μ1 : Sg} (P : PR T n τ μ τ1 μ1 pt q a) : a ≤ n ∧ q ≤ n := ⟨P.1.2.2.2.2.2.2.2.2.1, P.1.2.2.2.2.2.2.2.1⟩
theorem PR.b {T : Nat → Int32} {n pt q a b : Nat} {τ μ τ1 μ1 : Sg} (P : PR T n τ μ τ1 μ1 pt q a) (hb : isB b) (j : Nat) : gI τ1 b j = gI τ b j := P.2.2.1.I b j (by rcases hb with rfl | rfl <;> exact fF_no (by simp))
theorem PR.m {T : Nat → Int32} {n pt q a : Nat} {τ μ τ1 μ1 : Sg} (P : PR T n τ μ τ1 μ1 pt q a) {j : Nat} (hj : fF RdM 51 j = false) : gI μ1 51 j = gI μ 51 j := P.2.2.2.1.I 51 j hj
theorem PR.G {T : Nat → Int32} {n pt q a : Nat} {τ μ τ1 μ1 : Sg} (P : PR T n τ μ τ1 μ1 pt q a) (x : Nat) : aG τ1 x = aG τ x := frx_G P.2.2.1 (by simp)
theorem PR.J {T : Nat → Int32} {n pt q a : Nat} {τ μ τ1 μ1 : Sg} (P : PR T n τ μ τ1 μ1 pt q a) (x : Nat) : aJ τ1 x = aJ τ x := frx_J P.2.2.1 (by simp)
theorem PR.A {T : Nat → Int32} {n pt q a : Nat} {τ μ τ1 μ1 : Sg} (P : PR T n τ μ τ1 μ1 pt q a) (x : Nat) : aI μ1 x = aI μ x := frx_A P.2.2.2.1 (by simp)
theorem PR.r {T : Nat → Int32} {n pt q a b : Nat} {τ μ τ1 μ1 : Sg} (P : PR T n τ μ τ1 μ1 pt q a) (h : gR τ 25 1 = b) : gR τ1 25 1 = b := (P.2.2.1.R 25 1 rfl).trans h
/-- all that is read stays while no row is written -/
theorem BK.cg {τ μ υ ω : Sg} {b : Nat} {W tn : Nat → Nat} (h : BK τ μ b W tn) (hb : isB b) (f : Fr (fF RdC) (fA []) τ υ) (g : Fr (fF RdM) (fA []) μ ω) : BK υ ω b W tn := by
  obtain ⟨⟨c1, c2, c3⟩, bd, bn, br, bl, bt⟩ := h
  have gb : ∀ j, gI υ b j = gI τ b j := fun j => f.I b j (by rcases hb with rfl | rfl <;> exact fF_no (by simp))
  have gm : ∀ j, j ∈ [3, 4, 5, 6, 7, 8, 9, 10, 11, 33] → gI ω 51 j = gI μ 51 j := fun j hj => g.I 51 j (by
    have : ∀ j ∈ [3, 4, 5, 6, 7, 8, 9, 10, 11, 33], fF RdM 51 j = false := by decide
    exact this j hj)
  refine ⟨⟨fun j hj => ?_, ?_⟩, bd, ⟨bn.1.cg (frx_J f (by simp)) (frx_A g (by simp)), bn.2.1.cg (frx_J f (by simp)) (frx_A g (by simp)), bn.2.2.cg (frx_J f (by simp)) (frx_A g (by simp))⟩, br.cg (fun j _ _ => frx_G f (by simp)) (fun a _ _ => frx_A g (by simp)) (fun j _ _ => rfl), bl.cg (fun j _ _ => frx_G f (by simp)) (frx_A g (by simp)) rfl (Nat.le_refl _),
    bt.cg (frx_G f (by simp)) (frx_G f (by simp)) (frx_G f (by simp)) (frx_A g (by simp)) (frx_A g (by simp)) (frx_A g (by simp)) (frx_A g (by simp)) rfl (Nat.le_refl _) (Nat.le_refl _)⟩
  · rw [gb j, gm (mfd j) (by
      have : ∀ j ∈ jL, mfd j ∈ [3, 4, 5, 6, 7, 8, 9, 10, 11, 33] := by decide
      exact this j hj)]
    exact c1 j hj
  · rw [gb 8, gm 33 (by decide)]
    exact ⟨c2, c3⟩
def uqW (W : Nat → Nat) (c v : Nat) (j : Nat) : Nat := if j = c then v else W j
theorem BCn.up {τ μ υ ω : Sg} {b c v : Nat} {W : Nat → Nat} (h : BCn τ μ b W) (hb : isB b) (hc : c ∈ jL) {A A' : List Nat} (hf : Fr (fF (RdC ++ [(b, c)])) (fA A) τ υ) (hm : Fr (fF (RdM ++ [(51, mfd c)])) (fA A') μ ω)
    (ec : gI υ b c = nI v) (mc : gI ω 51 (mfd c) = nI v) : BCn υ ω b (uqW W c v) := by
  obtain ⟨h1, h2, h3⟩ := h
  have hb25 : b ≠ 25 := by rcases hb with rfl | rfl <;> decide
  refine ⟨fun j hj => ?_, ?_⟩
  · unfold uqW
    by_cases qc : j = c
    · subst qc
      rw [if_pos rfl]
      exact ⟨ec, mc⟩
    · rw [if_neg qc]
      obtain ⟨x1, x2⟩ := h1 j hj
      refine ⟨(hf.I b j (fF_no ?_)).trans x1, (hm.I 51 (mfd j) (fF_no ?_)).trans x2⟩
      · simp [hb25, qc]
      · have : ∀ j ∈ jL, ∀ c ∈ jL, j ≠ c → (51, mfd j) ∉ RdM ++ [(51, mfd c)] := by decide +kernel
        exact this j hj c hc qc
  · have e8 : gI υ b 8 = gI τ b 8 := hf.I b 8 (fF_no (by
      have : (8 : Nat) ≠ c := fun z => by rw [← z] at hc; exact absurd hc (by decide)
      simp [hb25, this]))
    have m33 : gI ω 51 33 = gI μ 51 33 := hm.I 51 33 (fF_no (by
      have : ∀ c ∈ jL, (51, 33) ∉ RdM ++ [(51, mfd c)] := by decide +kernel
      exact this c hc))
    rw [e8, m33]
    exact ⟨h2, h3⟩
/-- a line is counted -/
theorem BK.ln {τ μ υ ω : Sg} {b : Nat} {W tn : Nat → Nat} (h : BK τ μ b W tn) (hb : isB b) (f : Fr (fF (RdC ++ [(b, 0)])) (fA []) τ υ) (g : Fr (fF (RdM ++ [(51, 11)])) (fA []) μ ω) (e : gI υ b 0 = gI τ b 0 + 1) (e' : gI ω 51 11 = gI μ 51 11 + 1) : BK υ ω b (uqW W 0 (W 0 + 1)) tn := by
  obtain ⟨bc, bd, bn, br, bl, bt⟩ := h
  have c0 := bc.1 0 (by decide)
  refine ⟨bc.up hb (c := 0) (by decide) f g ?_ ?_, ?_, ⟨bn.1.cg (frx_J f (by simp)) (frx_A g (by simp)), bn.2.1.cg (frx_J f (by simp)) (frx_A g (by simp)), bn.2.2.cg (frx_J f (by simp)) (frx_A g (by simp))⟩, br.cg (fun j _ _ => frx_G f (by simp)) (fun a _ _ => frx_A g (by simp)) (fun j h1 _ => if_neg (by omega)), bl.cg (fun j _ _ => frx_G f (by simp)) (frx_A g (by simp)) rfl (Nat.le_refl _),
    bt.cg (frx_G f (by simp)) (frx_G f (by simp)) (frx_G f (by simp)) (frx_A g (by simp)) (frx_A g (by simp)) (frx_A g (by simp)) (frx_A g (by simp)) rfl (Nat.le_refl _) (Nat.le_refl _)⟩
  · rw [e, c0.1, add_nI_1]
  · show gI ω 51 11 = _
    rw [e', show gI μ 51 11 = nI (W 0) from c0.2, add_nI_1]
  · exact bd
theorem fr_lc0 {τ υ : Sg} {b : Nat} (h : Fr (fF (RdC ++ [(b, 0)])) (fA []) τ υ) (hb : isB b) : Fr (fF (LC b)) (fA (LA b)) τ υ := by
  refine h.up ?_ rfl
  rcases hb with rfl | rfl <;> decide
/-- how a line ends -/
theorem l_tail {T : Nat → Int32} {n b p pt q a : Nat} {W tn : Nat → Nat} {τ μ τ3 μ3 μ4 : Sg} {km : Int32 → Sg → Option (Unit × Sg)} (hc : CS T n τ3 pt q a) (hm : MS T n μ3 q a) (h0 : gI μ3 51 29 = 0) (hb : isB b) (h25 : gR τ3 25 1 = b)
    (fc : Fr (fF (LC b)) (fA (LA b)) τ τ3) (fm : Fr (fF LM) (fA LMA) μ μ3) (r0 : gR τ 25 1 = b) (k0 : ∀ ω, km 0 ω = some ((), ω)) (k1 : km 1 μ3 = some ((), μ4)) {L : List (Nat × Nat)} {A : List Nat} (f4 : Fr (fF L) (fA A) μ3 μ4) (l1 : (L.all fun x => fF LM x.1 x.2) = true) (l2 : (A.all fun x => fA LMA x) = true)
    (l3 : ([(51, 23), (51, 24), (51, 25), (51, 26), (51, 27), (51, 28), (51, 29)].all fun q => !(fF L q.1 q.2)) = true) (l4 : (frL.all fun q => !(fF L q.1 q.2.1)) = true) (l5 : fA A 52 = false) (hK : BK τ3 μ4 b W tn) (hW : W 0 ≤ p) (hpq : p < q) :
    Ok2 (bnd (DX3_takeSemicolon 25 τ3) fun v s => chk (ck01 v) (some (v, s))) (bnd (DX8_isEnd 51 μ3) fun v s => bnd (km v s) (fun _ s => DX8_readLine_125 51 s)) (fun r υ _ ω => LnR T n b τ μ p r υ ω) := by
  refine ok2_l (c_semi hc hb h25) (fun r τ4 h4 => ?_)
  obtain ⟨g4, e4, x4⟩ := h4
  refine ok2_r (m_end hm h0) (fun v μ5 k3 => ?_)
  obtain ⟨d3, y3, z3⟩ := k3
  have hM5 := d3.fin hm.1 (by decide)
  have fcl := fc.trans (fr_lc0 g4 hb)
  by_cases q2 : tkF T n q = 2
  rotate_left
  · obtain ⟨rx, fx⟩ := x4 q2
    obtain ⟨vx, fy⟩ := z3 q2
    have hf : ¬ gI μ5 51 29 = 0 := by rw [fy.1]; decide
    subst rx vx
    rw [ck01_0, chk_true, k0, bnd_some, f_125 hM5 hf]
    exact ok2_ss (ln_bad fcl ((fm.trans (fr_lm d3)).pI 51 11 _ (by decide)) (by decide) fx fy.l)
  · obtain ⟨rx, s4, l4'⟩ := e4 q2
    obtain ⟨vx, ex⟩ := y3 q2
    subst rx vx ex
    have l3' : ([(51, 23), (51, 24), (51, 25), (51, 26), (51, 27), (51, 28)].all fun q => !(fF L q.1 q.2)) = true := by
      rw [List.all_eq_true] at l3 ⊢
      exact fun x hx => l3 x (by
        simp only [List.mem_cons, List.not_mem_nil, or_false] at hx ⊢
        rcases hx with h | h | h | h | h | h
        · exact Or.inl h
        · exact Or.inr (Or.inl h)
        · exact Or.inr (Or.inr (Or.inl h))
        · exact Or.inr (Or.inr (Or.inr (Or.inl h)))
        · exact Or.inr (Or.inr (Or.inr (Or.inr (Or.inl h))))
        · exact Or.inr (Or.inr (Or.inr (Or.inr (Or.inr (Or.inl h))))))
    have k4 : MS T n μ4 q a := hm.fr f4 l3' l4 l5
    have w4 : gI μ4 51 29 = 0 := (f4.I 51 29 (by simpa using List.all_eq_true.mp l3 (51, 29) (by simp))).trans h0
    rw [ck01_1, chk_true, k1, bnd_some]
    refine ok2_rr (m_125 k4 w4) (fun _ μ6 k6 => ?_)
    obtain ⟨d6, s6, w6, l6⟩ := k6
    have an := hc.2.2.2.2.2.2.2.2.1
    have v1 := nxP_le (T := T) an
    have v2 := nxA_le (T := T) (n := n) (p := q) hc.2.2.2.2.2.2.2.1
    have v3 : a = nxA T n q := hc.2.2.2.2.2.2.2.2.2.1
    refine ok2_ss ⟨fcl, fm.trans ((f4.up l1 l2).trans (d6.up (by decide) (by decide))), Or.inl ⟨rfl, uqW W 0 (W 0 + 1), tn, _, _, _, ⟨s4, s6, ?_, w6, hb, ?_, hK.ln hb g4 d6 l4' l6⟩, by omega⟩⟩
    · exact (fcl.R 25 1 (by rcases hb with rfl | rfl <;> decide)).trans r0
    · show W 0 + 1 ≤ _
      omega

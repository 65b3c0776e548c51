/-! THE LAW ASKS: the class stays as it is -/
abbrev QF1 (a j : Nat) : Bool := fF QF a j || decide (1000 ≤ a)
abbrev QA1 (a : Nat) : Bool := fA QA a || decide (1000 ≤ a)
theorem qf1_t : tbF QF1 = true := by decide
theorem qa1_t : tbA QA1 = true := by decide
/-- asked, and k makings -/
abbrev GQ (σ τ : Sg) (k : Nat) : Prop := Gx (fF QF) (fA QA) (fun _ => False) σ τ k
theorem invb_stl {σ τ : Sg} {b : Nat} {W tn : Nat → Nat} (h : InvB (stl τ (tl σ)) b W tn) (hN : gN τ = gN σ) : InvB τ b W tn := by
  obtain ⟨⟨⟨f1, f2⟩, cr⟩, r⟩ := h
  exact ⟨⟨⟨hN.trans f1, f2⟩, cr⟩, r⟩
section
variable {c : Nat → Int32} {σ τ υ : Sg} {k j : Nat} {W tn fl : Nat → Nat}
theorem GQ.tr (h : GQ σ τ k) (h' : GQ τ υ j) : GQ σ υ (k + j) := Gx.tr h h' (fun _ _ z => z) (fun _ z => z) (fun _ _ z => z)
theorem GQ.wk (h : GQ σ τ k) (hk : k ≤ j) : GQ σ τ j := Gx.mono h (fun _ _ z => z) (fun _ z => z) (fun _ _ z => z) hk
theorem gq_rf : GQ σ σ 0 := Gx.rf
theorem gq_fr (h : Fr (fF QF) (fA QA) σ τ) : GQ σ τ 0 := h.gx (by decide) (by decide)
theorem gq_hx {m : Nat} (h : HX (fun a => a < 2000 + gM σ) σ τ m) (hm : m ≤ 40) : GQ σ τ 1 := by
  obtain ⟨a1, a4, a3, a5, a6, a7, a8⟩ := h
  refine ⟨fun a i ha _ => ?_, fun a ha _ => ?_, fun a _ ha _ => a1 a ha, a3, a5, by omega, a7, by omega⟩
  · obtain ⟨s1, s2, s3, s4, s5, s6⟩ := a1 a (show a < 2000 + gM σ by omega)
    exact ⟨s1 i, s2 i, s3 i⟩
  · obtain ⟨s1, s2, s3, s4, s5, s6⟩ := a1 a (show a < 2000 + gM σ by omega)
    exact ⟨s4, s5, a4 a (show a < 2000 + gM σ by omega)⟩
theorem gq_s {X : Nat → Prop} (h : Gx (fF QF) (fA QA) X σ τ k) : Fr QF1 QA1 σ (stl τ (tl σ)) := Gx.fr h
theorem gq_aI {X : Nat → Prop} (h : Gx (fF QF) (fA QA) X σ τ k) {a : Nat} (ha : a < 1000) (hA : fA QA a = false) : aI τ a = aI σ a := funext fun x => (h.2.1 a ha hA).1 x
theorem gq_aG {X : Nat → Prop} (h : Gx (fF QF) (fA QA) X σ τ k) {a : Nat} (ha : a < 1000) (hA : fA QA a = false) : aG τ a = aG σ a := funext fun x => funext fun y => (h.2.1 a ha hA).2.2 x y
theorem gq_inv {X : Nat → Prop} (h : Inv σ 14 W tn fl) (hg : Gx (fF QF) (fA QA) X σ τ k) : Inv τ 14 W tn fl := by
  obtain ⟨h1, h2, h3, h4⟩ := h
  have e27 := gq_aI hg (a := 27) (by decide) (by decide)
  have e28 := gq_aI hg (a := 28) (by decide) (by decide)
  have e29 := gq_aI hg (a := 29) (by decide) (by decide)
  have e30 := gq_aG hg (a := 30) (by decide) (by decide)
  have e31 := gq_aG hg (a := 31) (by decide) (by decide)
  have g9 : aG τ (14 + 9) = aG σ (14 + 9) := gq_aG hg (a := 23) (by decide) (by decide)
  refine ⟨invb_stl (h1.fr (gq_s hg) qf1_t qa1_t) hg.2.2.2.1, (hg.1 1 2 (by decide) (by decide)).2.2.trans h2, ?_, trivial⟩
  unfold InvL CfOK
  rw [e27, e28, e29, e30, e31, g9]
  exact h3
theorem gq_jj {X : Nat → Prop} {n : Nat} (h : JJ σ 14 W tn fl n) (hg : Gx (fF QF) (fA QA) X σ τ k) : JJ τ 14 W tn fl n :=
  ⟨gq_inv h.1 hg, (hg.1 26 9 (by decide) (by decide)).1.trans h.2.1, (hg.1 26 10 (by decide) (by decide)).1.trans h.2.2.1, fun t ht => (congrFun (gq_aI hg (a := 29) (by decide) (by decide)) t).trans (h.2.2.2 t ht)⟩
theorem tab_of (h : Tab c σ) (e19 : aG τ 19 = aG σ 19) (e20 : aG τ 20 = aG σ 20) (e21 : aG τ 21 = aG σ 21) (e22 : aG τ 22 = aG σ 22) (e23 : aG τ 23 = aG σ 23) (e24 : aG τ 24 = aG σ 24) (e7 : gI τ 14 7 = gI σ 14 7) : Tab c τ := by
  unfold Tab Pb Pv Ps Pt at h ⊢
  rw [e19, e20, e21, e22, e23, e24, e7]
  exact h
theorem gq_tab {X : Nat → Prop} (h : Tab c σ) (hg : Gx (fF QF) (fA QA) X σ τ k) : Tab c τ :=
  tab_of h (gq_aG hg (by decide) (by decide)) (gq_aG hg (by decide) (by decide)) (gq_aG hg (by decide) (by decide)) (gq_aG hg (by decide) (by decide)) (gq_aG hg (by decide) (by decide)) (gq_aG hg (by decide) (by decide)) (hg.1 14 7 (by decide) (by decide)).1
theorem gq_SHC {n t f : Nat} {how sk : Int32} {car sh : Nat → Int32} (hg : GQ σ τ k) : SHC τ 14 W n t how sk car f sh = SHC σ 14 W n t how sk car f sh := by
  have e := SHC_fr (τ := stl τ (tl σ)) (W := W) (n := n) (t := t) (how := how) (sk := sk) (car := car) (f := f) (sh := sh) (Or.inr rfl : isB 14) (gq_s hg) qf1_t qa1_t
  exact e
theorem gq_BYC {n t f : Nat} {how sk : Int32} {car sh : Nat → Int32} (hg : GQ σ τ k) : BYC τ 14 W n t how sk car f sh = BYC σ 14 W n t how sk car f sh := by
  have e := BYC_fr (τ := stl τ (tl σ)) (W := W) (n := n) (t := t) (how := how) (sk := sk) (car := car) (f := f) (sh := sh) (Or.inr rfl : isB 14) (gq_s hg) qf1_t qa1_t
  exact e
theorem gq_RC {n t f : Nat} {how sk : Int32} {car sh : Nat → Int32} (hg : GQ σ τ k) : RC τ 14 W n t how sk car f sh = RC σ 14 W n t how sk car f sh := by
  have e := RC_fr (τ := stl τ (tl σ)) (W := W) (n := n) (t := t) (how := how) (sk := sk) (car := car) (f := f) (sh := sh) (Or.inr rfl : isB 14) (gq_s hg) qf1_t qa1_t
  exact e
theorem gq_LFC {n t f : Nat} {how sk : Int32} {car sh : Nat → Int32} (hg : GQ σ τ k) : LFC τ 14 W n t how sk car f sh = LFC σ 14 W n t how sk car f sh := by
  have e := LFC_fr (τ := stl τ (tl σ)) (W := W) (n := n) (t := t) (how := how) (sk := sk) (car := car) (f := f) (sh := sh) (Or.inr rfl : isB 14) (gq_s hg) qf1_t qa1_t
  exact e
theorem gq_fcC {t : Nat} {how : Int32} {car : Nat → Int32} (hg : GQ σ τ k) : fcC τ 14 W t how car = fcC σ 14 W t how car := by
  have e := fcC_fr (τ := stl τ (tl σ)) (W := W) (t := t) (how := how) (car := car) (Or.inr rfl : isB 14) (gq_s hg) qf1_t qa1_t
  exact e
theorem gq_phC {n t : Nat} {sk : Int32} {car : Nat → Int32} (hg : GQ σ τ k) : phC τ 14 W n t sk car = phC σ 14 W n t sk car := by
  have e := phC_fr (τ := stl τ (tl σ)) (W := W) (n := n) (t := t) (sk := sk) (car := car) (Or.inr rfl : isB 14) (gq_s hg) qa1_t
  exact e
theorem gq_IA {y n : Nat} {car : Nat → Int32} (h : IA σ y n car) (hg : GQ σ τ k) : IA τ y n car := by
  obtain ⟨h1, h2, h3, h4, h5⟩ := h
  obtain ⟨s1, s2, s3, s4, s5, s6⟩ := hg.2.2.1 y (by omega) h3 (fun z => z)
  have := hg.2.2.2.2.1
  exact ⟨s6.trans h1, h2, by omega, h4, fun j hj => (s4 j).trans (h5 j hj)⟩
theorem gq_FD {σT : Sg} {t f r : Nat} {how sk : Int32} {car sh : Nat → Int32} (h : FD c σT t f car sh how sk r σ) (hg : GQ σ τ k) : FD c σT t f car sh how sk r τ := by
  obtain ⟨⟨a1, a2, a3⟩, r2, r3, ⟨b1, b2, b3, b4⟩, ⟨d1, d2, d3, d4⟩, v, g5, g6⟩ := h
  have hm := hg.2.2.2.2.1
  obtain ⟨s1, s2, s3, s4, s5, s6⟩ := hg.2.2.1 r (by omega) a3 (fun z => z)
  obtain ⟨p1, p2, p3, p4, p5, p6⟩ := hg.2.2.1 _ (by omega) b3 (fun z => z)
  obtain ⟨q1, q2, q3, q4, q5, q6⟩ := hg.2.2.1 _ (by omega) d3 (fun z => z)
  exact ⟨⟨s6.trans a1, a2, by omega⟩, (s3 2).trans r2, (s3 3).trans r3, ⟨p6.trans b1, b2, by omega, b4⟩, ⟨q6.trans d1, d2, by omega, d4⟩, fun k hk => by rw [p4, q4]; exact v k hk, (s1 5).trans g5, by rw [s1]; exact g6⟩
theorem gq_WT (h : WT c σ) (hg : GQ σ τ k) : WT c τ := h.x hg (fun _ _ z => z)
/-- where the law stands -/
def LI (c : Nat → Int32) (c0 : Nat) (fl : Nat → Nat) (n : Nat) (τ : Sg) : Prop :=
  WT c τ ∧ Tab c τ ∧ JJ τ 14 (Wf c) (nCo c) fl n ∧ (gS τ c0 = (5, nTk c) ∧ gS τ (c0 + 1) = (5, nTk c) ∧ 2000 ≤ c0 ∧ c0 + 2 + 2 * nTk c ≤ 2000 + gM τ) ∧
  ∀ t, t < nTk c → gR τ c0 t = c0 + 2 + 2 * t ∧ gR τ (c0 + 1) t = c0 + 3 + 2 * t ∧ IA τ (c0 + 2 + 2 * t) (nCo c t) (aG τ 30 t) ∧ IA τ (c0 + 3 + 2 * t) (nCo c t) (fun k => if k < fl t then aG τ 31 t k else -1)
theorem LI.q {c0 n : Nat} (h : LI c c0 fl n σ) (hg : GQ σ τ k) : LI c c0 fl n τ := by
  obtain ⟨h1, h2, h3, ⟨a1, a2, a3, a4⟩, h5⟩ := h
  have hm := hg.2.2.2.2.1
  have s0 := hg.2.2.1 c0 (by omega) (by omega) (fun z => z)
  have s1 := hg.2.2.1 (c0 + 1) (by omega) (by omega) (fun z => z)
  have e30 := gq_aG hg (a := 30) (by decide) (by decide)
  have e31 := gq_aG hg (a := 31) (by decide) (by decide)
  refine ⟨gq_WT h1 hg, gq_tab h2 hg, gq_jj h3 hg, ⟨s0.2.2.2.2.2.trans a1, s1.2.2.2.2.2.trans a2, a3, by omega⟩, fun t ht => ?_⟩
  obtain ⟨b1, b2, b3, b4⟩ := h5 t ht
  rw [e30, e31]
  exact ⟨(s0.2.2.1 t).trans b1, (s1.2.2.1 t).trans b2, gq_IA b3 hg, gq_IA b4 hg⟩
theorem LI.b5 {c0 n t : Nat} (h : LI c c0 fl n σ) (ht : t < nTk c) : ckB σ 5 c0 (nI t) = true ∧ ckB σ 5 (c0 + 1) (nI t) = true := by
  obtain ⟨h1, h2, h3, ⟨a1, a2, a3, a4⟩, h5⟩ := h
  have bt := nTk_b c
  unfold ckB
  rw [a1, a2, inb_nI ht (by omega)]
  simp
  omega
end

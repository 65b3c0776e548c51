/-! THE LAW FINDS: all of it -/
section
variable {c : Nat → Int32} {σT σ τ : Sg} {f t fl : Nat} {car sh flw : Nat → Int32} {how sk bu pl : Int32}
/-- a Found tells what the class's numbers are -/
def FD (c : Nat → Int32) (σT : Sg) (t fl : Nat) (car sh : Nat → Int32) (how sk : Int32) (r : Nat) (τ : Sg) : Prop :=
  FO τ r ∧ gR τ r 2 = r + 3 ∧ gR τ r 3 = r + 4 ∧ AR τ 2 (r + 3) (nCo c t) ∧ AR τ 2 (r + 4) (nCo c t) ∧
  (∀ k, k < nCo c t → (aI τ (r + 3) k).toInt = SHC σT 14 (Wf c) (nCo c t) t how sk car fl sh k ∧ aI τ (r + 4) k = BYC σT 14 (Wf c) (nCo c t) t how sk car fl sh k) ∧
  gI τ r 5 = nI (RC σT 14 (Wf c) (nCo c t) t how sk car fl sh).2.2.2.2 ∧ (gI τ r 6).toInt = LFC σT 14 (Wf c) (nCo c t) t how sk car fl sh
theorem wb_of (hB : InvB σT 14 (Wf c) (nCo c)) (ht : t < nTk c) : WB (nCo c t) (kdC σT 14 (Wf c) (nCo c t) t sk car) (vlC σT 14 (Wf c) (nCo c t) t sk car) (fcC σT 14 (Wf c) t how car) := fun k hk =>
  ⟨(hB.vl ht sk car).1, hB.fc ht hk how car, (hB.vl ht sk car).2⟩
theorem f_256 {mo : Int64} (hB : InvB σT 14 (Wf c) (nCo c)) (hT : Tab c σT) (ht : t < nTk c) (hcf : CfOK σT 14 t (nCo c t) fl sh) (hN : NF σ f (nCo c t)) (hM : 2000 + gM σ = f + 9) (hF : FI c σT σ f t fl car sh how sk (nCo c t) mo τ) :
    Ok (DL_found_256 f mo (f + 5) (f + 6) (f + 7) (f + 8) τ) (fun r υ => r = f ∧ HX (fun a => a < f) τ υ 23 ∧ FD c σT t fl car sh how sk f υ) := by
  obtain ⟨hfr, hv, hz4, hmo⟩ := hF
  obtain ⟨n0, n1, ⟨r0, r1, r2, r3⟩, ⟨s1, s2, s3, s4, s5, s6, s7, s8⟩, nz, nd, nr⟩ := hN
  have bo := nCo_b c t
  have bf := nF_b c t
  have hB2 := wb_of (sk := sk) (car := car) (how := how) hB ht
  obtain ⟨c1, c2, c3, c4⟩ := id hcf
  have eF : aG σT (14 + 9) t 0 = nI (nF c t) := (hT.2.2.2.2.2 t ht).1
  have hM2 : 2000 + gM τ = f + 9 := by rw [(fr_M hfr).1]; exact hM
  have K0 : WK τ f (nCo c t) fl (kdC σT 14 (Wf c) (nCo c t) t sk car) (vlC σT 14 (Wf c) (nCo c t) t sk car) (fcC σT 14 (Wf c) t how car) :=
    ⟨n0.fr hfr, hfr.2.2.1.trans n1, ⟨(hfr.R f 0 rfl).trans r0, (hfr.R f 1 rfl).trans r1, (hfr.R f 2 rfl).trans r2, (hfr.R f 3 rfl).trans r3⟩, ⟨s1.fr hfr, s2.fr hfr, s3.fr hfr, s4.fr hfr, s5.fr hfr, s6.fr hfr, s7.fr hfr, s8.fr hfr⟩, fun j hj => (hv j hj).1, fun j hj => (hv j hj).2.1, fun j hj => (hv j hj).2.2.1, fun j hj => (hv j hj).2.2.2.1⟩
  obtain ⟨P, hP⟩ : ∃ P, PC σT 14 t fl sh = P := ⟨_, rfl⟩
  have eP : mo.toInt = P := by
    have sp := sI_split (f := fun k => if k < fl then (sh k).toInt else 0) fl (nCo c t - fl) 0
    rw [show fl + (nCo c t - fl) = nCo c t by omega, Nat.zero_add, sI_zero (nCo c t - fl) fl (fun k a _ => if_neg (by omega)), sI_congr (g := fun k => (sh k).toInt) fl 0 (fun k _ b => if_pos (by omega))] at sp
    rw [hmo, sp, ← hP]
    unfold PC
    rw [eF, nI_i (by omega)]
    omega
  have sn := sI_nn (f := fun k => (sh k).toInt) fl 0 (fun k _ b => c2 k (by omega))
  have pb : 0 ≤ P ∧ P ≤ 3000 := by
    rw [eF, nI_i (by omega)] at c3
    rw [← hP]
    unfold PC
    rw [eF, nI_i (by omega)]
    omega
  have pz : fl = nCo c t → P = 0 := fun z => by
    have := c4 z
    rw [← hP]
    unfold PC
    omega
  have hprk := pr_ok (kd := kdC σT 14 (Wf c) (nCo c t) t sk car) (vl := vlC σT 14 (Wf c) (nCo c t) t sk car) (fc := fcC σT 14 (Wf c) t how car) c1 pb.1 pz (fun k a b => (hB2 k b).1) (fun k a b => (hB2 k b).2.1.1)
  have eR : RC σT 14 (Wf c) (nCo c t) t how sk car fl sh = prF (kdC σT 14 (Wf c) (nCo c t) t sk car) (vlC σT 14 (Wf c) (nCo c t) t sk car) (fcC σT 14 (Wf c) t how car) fl (nCo c t) P := by
    unfold RC
    rw [hP]
  unfold DL_found_256
  refine ok_bnd (w_works K0 hM2 c1 hB2 eP pb.1 (by omega) (fun k a b => (hv k b).2.2.2.2.2 a) (fun k _ _ => (hfr.aJ (f + 1) (fA_no (by simp)) k).trans (nz k).1) (fun k _ _ => (hfr.aJ (f + 2) (fA_no (by simp)) k).trans (nz k).2.1) ((hfr.J f 4 rfl).trans nd) ((hfr.I f 5 rfl).trans nr)) (fun _ υ hu => ?_)
  obtain ⟨u1, u2, u3, u4, u5, u6⟩ := hu
  obtain ⟨g0, g1, ⟨q0, q1, q2, q3⟩, ⟨t1, t2, t3, t4, t5, t6, t7, t8⟩, v1, v2, v3, v4⟩ := u2
  rw [← eR] at u4 u5 u6 hprk
  unfold DL_found_271
  rw [g0.p, chk_true]
  refine ok_bnd (n_cuts g0 g1 q0 q1 q2 t1 t2 t3 t5 v1 c1 hprk eP (by omega) u5 (fun k a b => (u4 k a b).2.1) (fun k a b => (u4 k a b).2.2)) (fun _ ω hw => ?_)
  obtain ⟨w1, w2, w3, w4⟩ := hw
  unfold DL_found_280
  have h8 := t8.2.2.1
  have hX : ¬ (fun a => a < f) (2000 + gM υ) := by show ¬ _ < _; omega
  have x1 : HX (fun a => a < f) τ υ 22 := u1.wk (fun a ha => Or.inl ha) (Nat.le_refl _)
  have x2 : HX (fun a => a < f) υ ω 1 := (hx_mkD hX t1.2.2.2).tr (hx_fr w1 (fun q hq => by
    have : q = (f, 6) := by simpa using hq
    rw [this]
    show ¬ f < f
    omega) (fun a ha => by
    have : a = f + 3 ∨ a = 2000 + gM υ := by simpa using ha
    show ¬ a < f
    omega))
  have m3 : ∀ k, aI υ (f + 3) k = aI τ (f + 3) k := fun k => (u1.1 (f + 3) (Or.inr rfl)).2.2.2.1 k
  refine ok_some.mpr ⟨rfl, x1.tr x2, (g0.mk).fr w1, ?_, ?_, (t3.mk).fr w1, (t4.mk).fr w1, fun k hk => ⟨?_, ?_⟩, ?_, ?_⟩
  · rw [w1.R f 2 (fF_no (by simp)), gR_mkD, if_neg (by omega)]; exact q2
  · rw [w1.R f 3 (fF_no (by simp)), gR_mkD, if_neg (by omega)]; exact q3
  · unfold SHC LFC
    rw [hP]
    by_cases q : k < fl
    · rw [if_pos q, w4 k q, m3, ((hv k hk).2.2.2.2.1 q).1]
    · rw [if_neg q]
      exact w3 k (by omega) hk
  · have e4 : aI ω (f + 4) k = aI υ (f + 4) k := by rw [w1.aI (f + 4) (fA_no (by simp; omega)) k, aI_mkD, if_neg (by omega)]
    unfold BYC
    by_cases q : k < fl
    · rw [if_pos q, e4, u3 k q]
      exact ((hv k hk).2.2.2.2.1 q).2
    · rw [if_neg q, e4]
      exact (u4 k (by omega) hk).1
  · rw [w1.I f 5 (fF_no (by simp)), gI_mkD, if_neg (by omega)]; exact u6
  · unfold LFC
    rw [hP]
    exact w2
theorem l_found {y z : Nat} (hB : InvB σT 14 (Wf c) (nCo c)) (hW : WT c σ) (h : FG0 c σT σ (2000 + gM σ) t fl y z car sh flw how sk bu pl) :
    Ok (DL_found 1024 (nI t) how y z bu pl σ) (fun r υ => r = 2000 + gM σ ∧ HX (fun a => a < 2000 + gM σ) σ υ 32 ∧ FD c σT t fl car sh how sk r υ) := by
  obtain ⟨f, hf⟩ : ∃ f, f = 2000 + gM σ := ⟨_, rfl⟩
  rw [← hf] at h ⊢
  obtain ⟨⟨hT, ht, hc, hh, hcf⟩, ⟨iy, iz, hyf, hzf⟩, hcase⟩ := id h
  have bo := nCo_b c t
  have bt := nTk_b c
  have h8 : nCo c t ≤ 8 := by omega
  have hN := hW.2
  have kn := ckn_n h8
  have cl : (nI (nCo c t)).toNatClampNeg = nCo c t := nI_clamp (by omega)
  have x5 := nfS_x (n := nCo c t) hf h8
  have x9 := nf9_x (n := nCo c t) hf h8
  have hX : ∀ a, a < 2000 → (fun a => a < f) a := fun a ha => by show a < f; omega
  have W5 := hW.hx x5 hX
  have W9 := hW.hx x9 hX
  have h9 : FG0 c σT (nf9 σ f (nCo c t)) f t fl y z car sh flw how sk bu pl := ⟨⟨hT, ht, hc, hh, hcf⟩, ⟨iy.hx x9 hyf, iz.hx x9 hzf, hyf, hzf⟩, hcase⟩
  have k51 : ∀ s : Sg, gN s = 51 → ck51 s = true := fun s h => decide_eq_true h
  have n5 : gN (nfS σ f (nCo c t)) = 51 := hN
  unfold DL_found DL_found_7 DL_found_13 DL_found_27 DL_found_33 DL_found_39 DL_found_45
  rw [iy.q, chk_true, k51 σ hN, chk_true, wlet_eq, iy.1, ← hf]
  refine ok_bnd_eq (f_init hf h8 hN) ?_
  rw [n_fare W5.sc t (by omega), bnd_some, kn, chk_true, k51 _ n5, chk_true, cl, wlet_eq, nfS_M, show 2000 + (gM σ + 5) = f + 5 by omega]
  rw [chk_true, k51 (mkD (nfS σ f (nCo c t)) 3 (nCo c t) (nCo c t)) n5, chk_true, wlet_eq, gM_mkD, nfS_M, show 2000 + (gM σ + 5 + 1) = f + 6 by omega]
  rw [chk_true, k51 (mkD (mkD (nfS σ f (nCo c t)) 3 (nCo c t) (nCo c t)) 4 (nCo c t) (nCo c t)) n5, chk_true, wlet_eq, gM_mkD, gM_mkD, nfS_M, show 2000 + (gM σ + 5 + 1 + 1) = f + 7 by omega]
  rw [chk_true, k51 (mkD (mkD (mkD (nfS σ f (nCo c t)) 3 (nCo c t) (nCo c t)) 4 (nCo c t) (nCo c t)) 4 (nCo c t) (nCo c t)) n5, chk_true, wlet_eq, gM_mkD, gM_mkD, gM_mkD, nfS_M, show 2000 + (gM σ + 5 + 1 + 1 + 1) = f + 8 by omega]
  have nn := nf9_nf (n := nCo c t) hf h8 hN
  have bf := nF_b c t
  refine f_50 W9 nn h9 (fun τ mo hF => ?_) (nCo c t) 0 FU (nf9 σ f (nCo c t)) _ (by omega) (by unfold FU; omega) ⟨Fr.rf, fun k hk => absurd hk (Nat.not_lt_zero _), fun k _ => (nn.2.2.2.2.1 k).2.2, ?_⟩
  · refine (f_256 hB hT ht hcf nn (by rw [nf9_M]; omega) hF).mono (fun r υ hu => ⟨hu.1, ?_, by rw [hu.1]; exact hu.2.2⟩)
    have hx : HX (fun a => a < f) (nf9 σ f (nCo c t)) τ 0 := hx_fr hF.1 (fun q hq => absurd hq (List.not_mem_nil)) (fun a ha => by
      have : a = f + 3 ∨ a = f + 4 ∨ a = f + 5 ∨ a = f + 6 ∨ a = f + 7 ∨ a = f + 8 := by simpa using ha
      show ¬ a < f
      omega)
    exact (x9.tr hx).tr hu.2.1
  · rw [i_l, nI_i (by omega)]
    show _ = _ - (0 : Int)
    omega
theorem FD.x {X : Nat → Prop} {k r : Nat} (h : FD c σT t fl car sh how sk r σ) (hg : HX X σ τ k) (hr : X r) (h3 : X (r + 3)) (h4 : X (r + 4)) : FD c σT t fl car sh how sk r τ := by
  obtain ⟨⟨a1, a2, a3⟩, r2, r3, ⟨b1, b2, b3, b4⟩, ⟨d1, d2, d3, d4⟩, v, g5, g6⟩ := h
  have hm := hg.2.2.2.1
  obtain ⟨s1, s2, s3, s4, s5, s6⟩ := hg.1 r hr
  obtain ⟨p1, p2, p3, p4, p5, p6⟩ := hg.1 _ h3
  obtain ⟨q1, q2, q3, q4, q5, q6⟩ := hg.1 _ h4
  exact ⟨⟨s6.trans a1, a2, by omega⟩, (s3 2).trans r2, (s3 3).trans r3, ⟨p6.trans b1, b2, by omega, b4⟩, ⟨q6.trans d1, d2, by omega, d4⟩, fun k hk => by rw [p4, q4]; exact v k hk, (s1 5).trans g5, by rw [s1]; exact g6⟩
end

/-- what prorating leaves in the class -/
def AftC (σ : Sg) (b : Nat) (W : Nat → Nat) (n t : Nat) (how sk : Int32) (car : Nat → Int32) (f : Nat) (sh : Nat → Int32) (υ : Sg) : Prop :=
  (∀ k, k < n → aI υ 38 k = phC σ b W n t sk car k ∧ (aJ υ 42 k).toInt = fcC σ b W t how car k ∧ aI υ 40 k = BYC σ b W n t how sk car f sh k ∧ (aI υ 43 k).toInt = SHC σ b W n t how sk car f sh k) ∧
  gI υ 36 16 = nI (RC σ b W n t how sk car f sh).2.2.2.2 ∧ (gI υ 36 17).toInt = LFC σ b W n t how sk car f sh
theorem sI_nn0 {f : Nat → Int} (n : Nat) (h : ∀ k, k < n → 0 ≤ f k) : 0 ≤ sI f 0 n := sI_nn n 0 (fun k _ hk => h k (by omega))
theorem c_prorate {σ τ : Sg} {F : Nat → Nat → Bool} {A : Nat → Bool} {b t f : Nat} {W tn : Nat → Nat} {how sk : Int32} {car sh : Nat → Int32} (h : InvB σ b W tn) (hf : Fr F A σ τ) (hF : tbF F = true) (hA : tbA A = true) (ht : t < W 9) (hc : CfOK σ b t (tn t) f sh)
    (e0 : gR τ 36 0 = b) (e1 : gI τ 36 1 = nI t) (e2 : gI τ 36 2 = nI (tn t)) (e3 : gI τ 36 3 = nI f) (e4 : gI τ 36 4 = how) (e5 : gI τ 36 5 = sk) (ec : ∀ k, k < tn t → aI τ 37 k = car k) (es : ∀ k, k < f → aI τ 43 k = sh k) :
    Ok (DX5_prorate 36 τ) (fun _ υ => Fr (fF [(36, 15), (36, 16), (36, 17)]) (fA [38, 39, 40, 41, 42, 43, 44, 45]) τ υ ∧ AftC σ b W (tn t) t how sk car f sh υ) := by
  have h' := h.fr hf hF hA
  have hb := h.c.hb
  obtain ⟨c1, c2, c3, c4⟩ := hc
  have bd := h.c.bd
  have kt := h'.k t ht
  have g5 := InvB.g (j := 5) hb hf hA (by omega) (by omega)
  have g6 := InvB.g (j := 6) hb hf hA (by omega) (by omega)
  have g7 := InvB.g (j := 7) hb hf hA (by omega) (by omega)
  have g8 := InvB.g (j := 8) hb hf hA (by omega) (by omega)
  have g9 := InvB.g (j := 9) hb hf hA (by omega) (by omega)
  have g10 := InvB.g (j := 10) hb hf hA (by omega) (by omega)
  have r7 : gI τ b 7 = gI σ b 7 := hf.I b 7 (tbF_b hF hb (by decide))
  have hn8 : tn t ≤ 8 := kt.2.2.2.2.2.2.1.2
  have hP : PrS τ b t (tn t) f (W 4) (W 5) (W 6) := by
    refine ⟨h'.c.fin, hb, e0, e1, by omega, e2, hn8, e3, c1, h'.c.x.2.2.2.2.1, bd.2.2.2.2.1, h'.c.x.2.2.2.2.2.1, bd.2.2.2.2.2.1, h'.c.x.2.2.2.2.2.2.1, bd.2.2.2.2.2.2.1, fun k hk => ?_⟩
    obtain ⟨x, x1, x2⟩ := kt.2.2.2.2.2.2.2.2.2.2 k hk
    exact ⟨x, x2, by omega⟩
  have eS : sI (fun k => (aI τ 43 k).toInt) 0 f = sI (fun k => (sh k).toInt) 0 f := sI_congr f 0 (fun k _ hk => by rw [es k (by omega)])
  have eph : ∀ k, k < tn t → phK τ b t (tn t) (W 5) k = phC σ b W (tn t) t sk car k := fun k hk => by
    unfold phC
    rw [show phK τ b t (tn t) (W 5) k = phR (aG τ (b + 7)) (aI τ 37) (aG τ (b + 10) t) (tn t) k (gI τ 36 5) (W 5) 0 from rfl, g7, g10, e5]
    exact phR_congr ec hk _ _
  have ekd : ∀ k, k < tn t → kdK τ b t (tn t) (W 5) k = kdC σ b W (tn t) t sk car k := fun k hk => by
    unfold kdC
    rw [show kdK τ b t (tn t) (W 5) k = kdP (aG τ (b + 7)) (phK τ b t (tn t) (W 5) k) from rfl, eph k hk, g7]
  have evl : ∀ k, k < tn t → vlK τ b t (tn t) (W 5) k = vlC σ b W (tn t) t sk car k := fun k hk => by
    unfold vlC
    rw [show vlK τ b t (tn t) (W 5) k = vlP (aG τ (b + 9) t 0) (aG τ (b + 7)) (phK τ b t (tn t) (W 5) k) from rfl, eph k hk, g7, g9]
  have efc : ∀ k, k < tn t → fcK τ b t (W 4) (W 6) k = fcC σ b W t how car k := fun k hk => by
    unfold fcC
    rw [show fcK τ b t (W 4) (W 6) k = fcP (aG τ (b + 5)) (aG τ (b + 6)) (aG τ (b + 8)) (gI τ 36 4) (gI τ b 7) (aI τ 37) (aG τ (b + 10) t) (W 4) (W 6) k from rfl, g5, g6, g8, g10, e4, r7]
    unfold fcP
    rw [ec k hk]
  have hB : PrB τ b t (tn t) f (W 4) (W 5) (W 6) := by
    refine ⟨fun k hk => ⟨?_, ?_⟩, ?_, ⟨?_, kt.2.2.2.2.2.2.2.1.2⟩, fun p hp => ?_, fun k hk => ?_, fun k hk => ?_, ?_⟩
    · have := (kt.2.2.2.2.2.2.2.2.2.1 k hk).2.2.1
      omega
    · have := (h'.wt (mlP (aG τ (b + 5)) (aG τ (b + 10) t) k)).1
      omega
    · have := h'.rate.1
      omega
    · have := kt.2.2.2.2.2.2.2.1.1
      omega
    · have := (h'.r.2.1 p hp).2.2.2.2.2.2.1
      omega
    · rw [ekd k hk, evl k hk, efc k hk]
      obtain ⟨v1, v2⟩ := h.vl (n := tn t) (k := k) ht sk car
      exact ⟨h.fc ht hk how car, v1, v2⟩
    · rw [es k hk]; exact c2 k hk
    · rw [eS, g9]; exact c3
  refine (s_prorate hP hB (fun z => by rw [eS, g9]; exact c4 z)).mono (fun _ υ hq => ?_)
  obtain ⟨q1, q2, q3, q4, q5, q6⟩ := hq
  have eP : (aG τ (b + 9) t 0).toInt - sI (fun k => (aI τ 43 k).toInt) 0 f = PC σ b t f sh := by
    unfold PC
    rw [eS, g9]
  rw [eP] at q4 q5 q6
  have hR := pr_congr (P := PC σ b t f sh) c1 (fun k _ hk => ekd k hk) (fun k _ hk => evl k hk) (fun k _ hk => efc k hk)
  have hL := lf_congr (P := PC σ b t f sh) hR
  obtain ⟨hR1, hR2, hR3⟩ := hR
  refine ⟨q1, fun k hk => ⟨?_, ?_, ?_, ?_⟩, ?_, ?_⟩
  · rw [(q2 k hk).1, eph k hk]
  · rw [(q2 k hk).2.2.2, efc k hk]
  · unfold BYC
    by_cases hkf : k < f
    · rw [if_pos hkf]; exact (q3 k hkf).1
    · rw [if_neg hkf, (q4 k (by omega) hk).1]
      exact (hR1 k (by omega) hk).1
  · unfold SHC
    by_cases hkf : k < f
    · rw [if_pos hkf, (q3 k hkf).2, es k hkf]
    · obtain ⟨y1, y2, y3⟩ := hR1 k (by omega) hk
      rw [if_neg hkf, (q4 k (by omega) hk).2, y2, y3, hR2, hL]
      unfold shF
      rw [rk_congr (r := fun k => (prF (kdK τ b t (tn t) (W 5)) (vlK τ b t (tn t) (W 5)) (fcK τ b t (W 4) (W 6)) f (tn t) (PC σ b t f sh)).2.2.1 k % (prF (kdC σ b W (tn t) t sk car) (vlC σ b W (tn t) t sk car) (fcC σ b W t how car) f (tn t) (PC σ b t f sh)).2.2.2.1) (r' := fun k => (RC σ b W (tn t) t how sk car f sh).2.2.1 k % (RC σ b W (tn t) t how sk car f sh).2.2.2.1) (fun k a c => by
        show _ % _ = _ % _
        rw [(hR1 k a c).2.2]
        rfl) (show f ≤ k by omega) hk]
      rfl
  · rw [q5, hR3]; rfl
  · rw [q6, hL]; rfl

/-! THE LAW WORKS: a round's factors -/
section
variable {σ : Sg} {f n fl : Nat} {kd : Nat → Int32} {vl fc : Nat → Int}
theorem w_262 {K236 : Nat → Nat → Nat → Nat → Int32 → Nat → Int64 → Int32 → Sg → Option (Unit × Sg)} {K248 : Nat → Nat → Nat → Nat → Int32 → Nat → Int64 → Int32 → Nat → Sg → Option (Unit × Sg)} {Q : Unit → Sg → Prop} {l10 : Int64} {l14 : Int32} {mi : Nat} {o : Nat → Bool} (h : WK σ f n fl kd vl fc) (a10 : AR σ 3 (f + 10) n) (ho : ∀ k, k < n → aI σ (f + 10) k = bN (o k)) (hf : ∀ k, k < n → 0 ≤ fc k ∧ fc k ≤ 1000000000)
    (hQ : ∀ l16 : Int64, l16.toInt = sI (ptS o fc) 0 n → Ok (DL_works_297 K236 K248 f (f + 6) (f + 7) (f + 8) (nI n) (f + 10) l10 l14 mi l16 σ) Q) :
    ∀ (d i m : Nat) (l16 : Int64), i + d = n → d < m → l16.toInt = sI (ptS o fc) 0 i → Ok (DL_works_262 K236 K248 m f (f + 6) (f + 7) (f + 8) (nI n) (f + 10) l10 l14 mi l16 (nI i) σ) Q := by
  obtain ⟨c1, c2, ⟨r0, r1, r2, r3⟩, ⟨s1, s2, s3, s4, s5, s6, s7, s8⟩, v1, v2, v3, v4⟩ := h
  have h8 := a10.2.2.2
  intro d
  induction d with
  | zero =>
    intro i m l16 hi hm hl
    obtain ⟨m, rfl⟩ : ∃ k, m = k + 1 := ⟨m - 1, by omega⟩
    rw [DL_works_262, if_pos ((nI_leI (by omega) (by omega)).mpr (by omega))]
    rw [show i = n by omega] at hl
    exact hQ l16 hl
  | succ d ih =>
    intro i m l16 hi hm hl
    obtain ⟨m, rfl⟩ : ∃ k, m = k + 1 := ⟨m - 1, by omega⟩
    have hi' : i < n := by omega
    have hc : (nI i).toNatClampNeg = i := nI_clamp (by omega)
    have sl := sI_last (f := ptS o fc) i 0
    rw [Nat.zero_add] at sl
    have fi := hf i hi'
    have sb := sI_b2 (g := ptS o fc) (B := 1000000000) (by omega) i 0 (fun k _ b => by
      have := hf k (by omega)
      unfold ptS
      split <;> omega)
    have pb : 0 ≤ ptS o fc i ∧ ptS o fc i ≤ 1000000000 := by
      unfold ptS
      split <;> omega
    rw [DL_works_262, if_neg (fun z => by have := (nI_leI (by omega) (by omega)).mp z; omega), a10.b hi', chk_true, hc, ho i hi']
    unfold DL_works_288
    rw [s6.b hi', show nI i + (1 : Int32) = nI (i + 1) from nI_add _ _]
    have nx : ∀ v : Int64, v.toInt = ptS o fc i → Ok (DL_works_262 K236 K248 m f (f + 6) (f + 7) (f + 8) (nI n) (f + 10) l10 l14 mi (l16 + v) (nI (i + 1)) σ) Q := fun v hv =>
      ih (i + 1) m _ (by omega) (by omega) (by rw [l_add (by unfold sm; rw [hl, hv]; omega), hl, hv, sl])
    cases e : o i with
    | true =>
      rw [if_neg (by decide), chk_true]
      refine nx _ ?_
      unfold ptS
      rw [e, if_pos rfl]
      exact v2 i hi'
    | false =>
      rw [if_pos (by decide)]
      refine nx _ ?_
      unfold ptS
      rw [e]
      rfl
end

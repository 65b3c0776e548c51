/-! THE LAW WORKS: by what -/
section
variable {σ : Sg} {f n fl : Nat} {kd : Nat → Int32} {vl fc : Nat → Int}
theorem w_443 {K236 : Nat → Nat → Nat → Nat → Int32 → Nat → Int64 → Int32 → Sg → Option (Unit × Sg)} {K248 : Nat → Nat → Nat → Nat → Int32 → Nat → Int64 → Int32 → Nat → Sg → Option (Unit × Sg)} {Q : Unit → Sg → Prop} {l10 l19 : Int64} {w : Int32} {mi be : Nat} {y : Nat → Bool} (h : WK σ f n fl kd vl fc) (ab : AR σ 3 be n) (hbe : f + 11 ≤ be) (hy : ∀ k, k < n → aI σ be k = bN (y k))
    (hQ : ∀ τ, Fr (fF []) (fA [f + 4]) σ τ → (∀ k, k < n → aI τ (f + 4) k = if y k then w else aI σ (f + 4) k) → Ok (DL_works_473 K236 K248 f (f + 6) (f + 7) (f + 8) (nI n) (f + 10) l10 w mi be l19 τ) Q) :
    ∀ (d i m : Nat) (τ : Sg), i + d = n → d < m → Fr (fF []) (fA [f + 4]) σ τ → (∀ k, k < i → aI τ (f + 4) k = if y k then w else aI σ (f + 4) k) → (∀ k, i ≤ k → aI τ (f + 4) k = aI σ (f + 4) k) → Ok (DL_works_443 K236 K248 m f (f + 6) (f + 7) (f + 8) (nI n) (f + 10) l10 w mi be l19 (nI i) τ) Q := by
  have h8 := ab.2.2.2
  intro d
  induction d with
  | zero =>
    intro i m τ hi hm hfr hk hk2
    obtain ⟨m, rfl⟩ : ∃ k, m = k + 1 := ⟨m - 1, by omega⟩
    rw [DL_works_443, if_pos ((nI_leI (by omega) (by omega)).mpr (by omega))]
    exact hQ τ hfr (fun k a => hk k (by omega))
  | succ d ih =>
    intro i m τ hi hm hfr hk hk2
    obtain ⟨m, rfl⟩ : ∃ k, m = k + 1 := ⟨m - 1, by omega⟩
    have hi' : i < n := by omega
    have hc : (nI i).toNatClampNeg = i := nI_clamp (by omega)
    have bb := ab.fr hfr
    obtain ⟨c1, c2, ⟨r0, r1, r2, r3⟩, ⟨s1, s2, s3, s4, s5, s6, s7, s8⟩, v1, v2, v3, v4⟩ := h.fr hfr (fun _ _ => rfl) (fun k a b => fA_no (by simp; omega))
    have eb : aI τ be i = bN (y i) := (hfr.aI be (fA_no (by simp; omega)) i).trans (hy i hi')
    rw [DL_works_443, if_neg (fun z => by have := (nI_leI (by omega) (by omega)).mp z; omega), bb.b hi', chk_true, hc, eb]
    unfold DL_works_467
    rw [show nI i + (1 : Int32) = nI (i + 1) from nI_add _ _]
    cases e : y i with
    | true =>
      rw [if_neg (by decide), c1.p, chk_true, r3, show ckV (f + 4) = true from decide_eq_true (by omega), chk_true, s4.b hi', chk_true, wlet_eq]
      refine ih (i + 1) m _ (by omega) (by omega) (hfr.wI (f + 4) i _ (fA_in (by simp))) (fun k a => ?_) (fun k a => ?_)
      · rw [aI_wI]
        by_cases z : k = i
        · rw [if_pos ⟨rfl, z⟩, z, e, if_pos rfl]
        · rw [if_neg (fun x => z x.2)]; exact hk k (by omega)
      · rw [aI_wI, if_neg (fun x => by omega)]
        exact hk2 k (by omega)
    | false =>
      rw [if_pos (by decide)]
      refine ih (i + 1) m τ (by omega) (by omega) hfr (fun k a => ?_) (fun k a => hk2 k (by omega))
      by_cases z : k = i
      · rw [z, e, hk2 i (Nat.le_refl _)]; rfl
      · exact hk k (by omega)
end

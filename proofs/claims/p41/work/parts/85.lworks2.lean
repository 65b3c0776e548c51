/-! THE LAW WORKS: amounts of the first -/
section
variable {σ : Sg} {f n fl : Nat} {kd : Nat → Int32} {vl fc : Nat → Int}
theorem w_169 {Q : Unit → Sg → Prop} {pool : Int64} (h : WK σ f n fl kd vl fc) (a9 : AR σ 3 (f + 9) n) (h9 : ∀ k, k < n → aI σ (f + 9) k = bN (fiB kd fl k))
    (hQ : ∀ τ, Fr (fF []) (fA [f + 1]) σ τ → (∀ k, k < n → (aJ τ (f + 1) k).toInt = ptS (fiB kd fl) vl k) → Ok (DL_works_206 f (f + 6) (f + 7) (f + 8) (nI n) (f + 9) (f + 10) pool τ) Q) :
    ∀ (d i m : Nat) (τ : Sg), i + d = n → d < m → Fr (fF []) (fA [f + 1]) σ τ → (∀ k, k < i → (aJ τ (f + 1) k).toInt = ptS (fiB kd fl) vl k) → Ok (DL_works_169 m f (f + 6) (f + 7) (f + 8) (nI n) (f + 9) (f + 10) pool (nI i) τ) Q := by
  have h8 := a9.2.2.2
  intro d
  induction d with
  | zero =>
    intro i m τ hi hm hfr hk
    obtain ⟨m, rfl⟩ : ∃ k, m = k + 1 := ⟨m - 1, by omega⟩
    rw [DL_works_169, if_pos ((nI_leI (by omega) (by omega)).mpr (by omega))]
    exact hQ τ hfr (fun k hk2 => hk k (by omega))
  | succ d ih =>
    intro i m τ hi hm hfr hk
    obtain ⟨m, rfl⟩ : ∃ k, m = k + 1 := ⟨m - 1, by omega⟩
    have hi' : i < n := by omega
    obtain ⟨c1, c2, ⟨r0, r1, r2, r3⟩, ⟨s1, s2, s3, s4, s5, s6, s7, s8⟩, v1, v2, v3, v4⟩ := h.fr hfr (fun _ _ => rfl) (fun k a b => fA_no (by simp; omega))
    have b9 := a9.fr hfr
    have e9 : aI τ (f + 9) i = bN (fiB kd fl i) := (hfr.aI (f + 9) (fA_no (by simp)) i).trans (h9 i hi')
    have hc : (nI i).toNatClampNeg = i := nI_clamp (by omega)
    rw [DL_works_169, if_neg (fun z => by have := (nI_leI (by omega) (by omega)).mp z; omega), c1.p, chk_true, r0, show ckV (f + 1) = true from decide_eq_true (by omega), chk_true, b9.b hi', chk_true, hc, e9]
    unfold DL_works_199
    rw [s1.b hi', s7.b hi', hc, show nI i + (1 : Int32) = nI (i + 1) from nI_add _ _]
    have nx : ∀ v : Int64, v.toInt = ptS (fiB kd fl) vl i → Ok (DL_works_169 m f (f + 6) (f + 7) (f + 8) (nI n) (f + 9) (f + 10) pool (nI (i + 1)) (wJ τ (f + 1) i v)) Q := fun v hv => by
      refine ih (i + 1) m _ (by omega) (by omega) (hfr.wJ (f + 1) i v (fA_in (by simp))) (fun k hk2 => ?_)
      rw [aJ_wJ]
      by_cases z : k = i
      · rw [if_pos ⟨rfl, z⟩, z]; exact hv
      · rw [if_neg (fun x => z x.2)]; exact hk k (by omega)
    cases e : fiB kd fl i with
    | true =>
      rw [if_neg (by decide), chk_true, chk_true, wlet_eq]
      refine nx _ ?_
      unfold ptS
      rw [e, if_pos rfl]
      exact v3 i hi'
    | false =>
      rw [if_pos (by decide), chk_true, wlet_eq]
      refine nx _ ?_
      unfold ptS
      rw [e]
      rfl
end

/-! THE LAW WORKS: who is beyond -/
section
variable {σ : Sg} {f n fl : Nat} {kd : Nat → Int32} {vl fc : Nat → Int}
def byN (kd : Nat → Int32) (vl fc : Nat → Int) (o : Nat → Bool) (w : Int32) (pool F : Int) (j : Nat) : Bool := o j && (decide (kd j = w) && (if w = 3 then decide (pool * fc j < vl j * F) else decide (vl j * F < pool * fc j)))
theorem w_309 {K236 : Nat → Nat → Nat → Nat → Int32 → Nat → Int64 → Int32 → Sg → Option (Unit × Sg)} {K248 : Nat → Nat → Nat → Nat → Int32 → Nat → Int64 → Int32 → Nat → Sg → Option (Unit × Sg)} {Q : Unit → Sg → Prop} {l10 l16 : Int64} {w : Int32} {mi be : Nat} {o : Nat → Bool} {pool F : Int} (h : WK σ f n fl kd vl fc) (a10 : AR σ 3 (f + 10) n) (ab : AR σ 3 be n) (hbe : f + 11 ≤ be) (ho : ∀ k, k < n → aI σ (f + 10) k = bN (o k)) (hf : ∀ k, k < n → 0 ≤ fc k ∧ fc k ≤ 1000000000) (hv : ∀ k, k < n → 0 ≤ vl k ∧ vl k ≤ 9999999)
    (hp : l10.toInt = pool) (hp2 : 0 ≤ pool ∧ pool ≤ 9999999) (hF : l16.toInt = F) (hF2 : 0 ≤ F ∧ F ≤ 8000000000)
    (hQ : ∀ τ (l19 : Int64), Fr (fF []) (fA [be]) σ τ → (∀ k, k < n → aI τ be k = bN (byN kd vl fc o w pool F k)) → l19.toInt = sI (ptS (byN kd vl fc o w pool F) vl) 0 n → Ok (DL_works_419 K236 K248 f (f + 6) (f + 7) (f + 8) (nI n) (f + 10) l10 w mi be l19 τ) Q) :
    ∀ (d i m : Nat) (τ : Sg) (l19 : Int64), i + d = n → d < m → Fr (fF []) (fA [be]) σ τ → (∀ k, k < i → aI τ be k = bN (byN kd vl fc o w pool F k)) → l19.toInt = sI (ptS (byN kd vl fc o w pool F) vl) 0 i → Ok (DL_works_309 K236 K248 m f (f + 6) (f + 7) (f + 8) (nI n) (f + 10) l10 w mi l16 be l19 (nI i) τ) Q := by
  have h8 := a10.2.2.2
  intro d
  induction d with
  | zero =>
    intro i m τ l19 hi hm hfr hk hl
    obtain ⟨m, rfl⟩ : ∃ k, m = k + 1 := ⟨m - 1, by omega⟩
    rw [DL_works_309, if_pos ((nI_leI (by omega) (by omega)).mpr (by omega))]
    rw [show i = n by omega] at hk hl
    exact hQ τ l19 hfr hk hl
  | succ d ih =>
    intro i m τ l19 hi hm hfr hk hl
    obtain ⟨m, rfl⟩ : ∃ k, m = k + 1 := ⟨m - 1, by omega⟩
    have hi' : i < n := by omega
    have hc : (nI i).toNatClampNeg = i := nI_clamp (by omega)
    have b10 := a10.fr hfr
    have bb := ab.fr hfr
    obtain ⟨c1, c2, -, ⟨s1, s2, s3, s4, s5, s6, s7, s8⟩, v1, v2, v3, v4⟩ := h.fr hfr (fun _ _ => rfl) (fun k a b => fA_no (by simp; omega))
    have e10 : aI τ (f + 10) i = bN (o i) := (hfr.aI (f + 10) (fA_no (by simp; omega)) i).trans (ho i hi')
    have sl := sI_last (f := ptS (byN kd vl fc o w pool F) vl) i 0
    rw [Nat.zero_add] at sl
    have fi := hf i hi'
    have vi := hv i hi'
    have sb := sI_b2 (g := ptS (byN kd vl fc o w pool F) vl) (B := 9999999) (by omega) i 0 (fun k _ b => by
      have := hv k (by omega)
      unfold ptS
      split <;> omega)
    have pb : 0 ≤ ptS (byN kd vl fc o w pool F) vl i ∧ ptS (byN kd vl fc o w pool F) vl i ≤ 9999999 := by
      unfold ptS
      split <;> omega
    have m1 : (l10 * aJ τ (f + 6) i).toInt = pool * fc i := by
      rw [l_mul, hp, v2 i hi']
      rw [hp, v2 i hi']
      have a := Int.mul_nonneg hp2.1 fi.1
      have b := Int.mul_le_mul hp2.2 fi.2 fi.1 (by omega)
      unfold sm
      omega
    have m2 : (aJ τ (f + 7) i * l16).toInt = vl i * F := by
      rw [l_mul, hF, v3 i hi']
      rw [hF, v3 i hi']
      have a := Int.mul_nonneg vi.1 hF2.1
      have b := Int.mul_le_mul vi.2 hF2.2 hF2.1 (by omega)
      unfold sm
      omega
    -- the turn's end
    have go : Ok (DL_works_390 K236 K248 (DL_works_309 K236 K248 m) f (f + 6) (f + 7) (f + 8) (nI n) (f + 10) l10 w mi l16 be l19 (nI i) be (nI i) (bN (byN kd vl fc o w pool F i)) τ) Q := by
      have bb' : AR (wI τ be i (bN (byN kd vl fc o w pool F i))) 3 be n := bb
      have s7' : AR (wI τ be i (bN (byN kd vl fc o w pool F i))) 4 (f + 7) n := s7
      have k01 : ck01 (bN (byN kd vl fc o w pool F i)) = true := by cases byN kd vl fc o w pool F i <;> decide
      have g1 : aI (wI τ be i (bN (byN kd vl fc o w pool F i))) be i = bN (byN kd vl fc o w pool F i) := by rw [aI_wI, if_pos ⟨rfl, rfl⟩]
      have g2 : (aJ (wI τ be i (bN (byN kd vl fc o w pool F i))) (f + 7) i).toInt = vl i := v3 i hi'
      unfold DL_works_390 DL_works_410
      rw [bb.b hi', chk_true, k01, chk_true, hc, wlet_eq, bb'.b hi', chk_true, g1, s7'.b hi', show nI i + (1 : Int32) = nI (i + 1) from nI_add _ _]
      have nx : ∀ v : Int64, v.toInt = ptS (byN kd vl fc o w pool F) vl i → Ok (DL_works_309 K236 K248 m f (f + 6) (f + 7) (f + 8) (nI n) (f + 10) l10 w mi l16 be (l19 + v) (nI (i + 1)) (wI τ be i (bN (byN kd vl fc o w pool F i)))) Q := fun v hv => by
        refine ih (i + 1) m _ _ (by omega) (by omega) (hfr.wI be i _ (fA_in (by simp))) (fun k hk2 => ?_) (by rw [l_add (by unfold sm; rw [hl, hv]; omega), hl, hv, sl])
        rw [aI_wI]
        by_cases z : k = i
        · rw [if_pos ⟨rfl, z⟩, z]
        · rw [if_neg (fun x => z x.2)]; exact hk k (by omega)
      cases e : byN kd vl fc o w pool F i with
      | true =>
        rw [e] at nx g2
        rw [if_neg (by decide), chk_true]
        refine nx _ ?_
        unfold ptS
        rw [e, if_pos rfl]
        exact g2
      | false =>
        rw [e] at nx
        rw [if_pos (by decide)]
        refine nx _ ?_
        unfold ptS
        rw [e]
        rfl
    have fin : ∀ z : Bool, byN kd vl fc o w pool F i = z → Ok (DL_works_390 K236 K248 (DL_works_309 K236 K248 m) f (f + 6) (f + 7) (f + 8) (nI n) (f + 10) l10 w mi l16 be l19 (nI i) be (nI i) (bN z) τ) Q := fun z hz => by rw [← hz]; exact go
    have f0 := fin false
    have f1 := fin true
    rw [DL_works_309, if_neg (fun z => by have := (nI_leI (by omega) (by omega)).mp z; omega), s6.b hi', chk_true, b10.b hi', chk_true, hc, e10]
    unfold DL_works_389 DL_works_385
    cases e : o i with
    | false =>
      rw [if_pos (by decide)]
      exact f0 (by unfold byN; rw [e]; rfl)
    | true =>
      rw [if_neg (by decide), s8.a hi', chk_true, v4 i hi']
      by_cases q1 : kd i = w
      · rw [if_pos q1]
        by_cases q2 : w = 3
        · rw [if_pos q2, s7.b hi', chk_true]
          by_cases q3 : aJ τ (f + 7) i * l16 ≤ l10 * aJ τ (f + 6) i
          · rw [if_pos q3]
            rw [l_le, m1, m2] at q3
            exact f0 (by unfold byN; rw [if_pos q2, decide_eq_false (show ¬ pool * fc i < vl i * F by omega), Bool.and_false, Bool.and_false])
          · rw [if_neg q3]
            rw [l_le, m1, m2] at q3
            exact f1 (by unfold byN; rw [e, if_pos q2, decide_eq_true (show pool * fc i < vl i * F by omega), decide_eq_true q1]; rfl)
        · rw [if_neg q2, s7.b hi', chk_true]
          by_cases q3 : l10 * aJ τ (f + 6) i ≤ aJ τ (f + 7) i * l16
          · rw [if_pos q3]
            rw [l_le, m1, m2] at q3
            exact f0 (by unfold byN; rw [if_neg q2, decide_eq_false (show ¬ vl i * F < pool * fc i by omega), Bool.and_false, Bool.and_false])
          · rw [if_neg q3]
            rw [l_le, m1, m2] at q3
            exact f1 (by unfold byN; rw [e, if_neg q2, decide_eq_true (show vl i * F < pool * fc i by omega), decide_eq_true q1]; rfl)
      · rw [if_neg q1]
        exact f0 (by unfold byN; rw [decide_eq_false q1, Bool.false_and, Bool.and_false])
end

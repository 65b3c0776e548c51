/-! THE LAW WORKS: the provisos that go first -/
section
variable {σ : Sg} {f n fl : Nat} {kd : Nat → Int32} {vl fc : Nat → Int}
/-- what works is given: whole f+1, up f+2, share f+3, by f+4, open f+5, factor f+6, amount f+7, kind f+8 -/
def WK (σ : Sg) (f n fl : Nat) (kd : Nat → Int32) (vl fc : Nat → Int) : Prop :=
  FO σ f ∧ gN σ = 51 ∧ (gR σ f 0 = f + 1 ∧ gR σ f 1 = f + 2 ∧ gR σ f 2 = f + 3 ∧ gR σ f 3 = f + 4) ∧
  (AR σ 4 (f + 1) n ∧ AR σ 4 (f + 2) n ∧ AR σ 2 (f + 3) n ∧ AR σ 2 (f + 4) n ∧ AR σ 3 (f + 5) n ∧ AR σ 4 (f + 6) n ∧ AR σ 4 (f + 7) n ∧ AR σ 2 (f + 8) n) ∧
  (∀ j, j < n → aI σ (f + 5) j = bN (decide (fl ≤ j))) ∧ (∀ j, j < n → (aJ σ (f + 6) j).toInt = fc j) ∧ (∀ j, j < n → (aJ σ (f + 7) j).toInt = vl j) ∧ ∀ j, j < n → aI σ (f + 8) j = kd j
theorem WK.fr {τ : Sg} {l : List (Nat × Nat)} {m : List Nat} (h : WK σ f n fl kd vl fc) (hf : Fr (fF l) (fA m) σ τ) (h1 : ∀ k, k < 4 → fF l f k = false) (h2 : ∀ k, 5 ≤ k → k ≤ 8 → fA m (f + k) = false) : WK τ f n fl kd vl fc := by
  obtain ⟨a1, a2, ⟨r0, r1, r2, r3⟩, ⟨s1, s2, s3, s4, s5, s6, s7, s8⟩, v1, v2, v3, v4⟩ := h
  refine ⟨a1.fr hf, hf.2.2.1.trans a2, ⟨(hf.R f 0 (h1 0 (by omega))).trans r0, (hf.R f 1 (h1 1 (by omega))).trans r1, (hf.R f 2 (h1 2 (by omega))).trans r2, (hf.R f 3 (h1 3 (by omega))).trans r3⟩, ⟨s1.fr hf, s2.fr hf, s3.fr hf, s4.fr hf, s5.fr hf, s6.fr hf, s7.fr hf, s8.fr hf⟩, fun j hj => (hf.aI _ (h2 5 (by omega) (by omega)) j).trans (v1 j hj), fun j hj => ?_, fun j hj => ?_, fun j hj => (hf.aI _ (h2 8 (by omega) (by omega)) j).trans (v4 j hj)⟩
  · rw [hf.aJ _ (h2 6 (by omega) (by omega)) j]; exact v2 j hj
  · rw [hf.aJ _ (h2 7 (by omega) (by omega)) j]; exact v3 j hj
/-- who is first -/
def fiB (kd : Nat → Int32) (fl : Nat) (k : Nat) : Bool := decide (fl ≤ k) && isF kd k
def otB (kd : Nat → Int32) (fl : Nat) (k : Nat) : Bool := decide (fl ≤ k) && !isF kd k
def F25 (σ : Sg) (f fl : Nat) (kd : Nat → Int32) (i : Nat) (τ : Sg) : Prop := Fr (fF []) (fA [f + 4, f + 9, f + 10]) σ τ ∧ (∀ k, k < i → aI τ (f + 9) k = bN (fiB kd fl k) ∧ aI τ (f + 10) k = bN (otB kd fl k) ∧ aI τ (f + 4) k = if fiB kd fl k then kd k else aI σ (f + 4) k) ∧ ∀ k, i ≤ k → aI τ (f + 4) k = aI σ (f + 4) k
theorem w_25 {Q : Unit → Sg → Prop} {l10 : Int64} (h : WK σ f n fl kd vl fc) (a9 : AR σ 3 (f + 9) n) (a10 : AR σ 3 (f + 10) n) (hv : ∀ k, k < n → 0 ≤ vl k ∧ vl k ≤ 9999999)
    (hQ : ∀ τ l12, F25 σ f fl kd n τ → l12.toInt = sI (ptS (fiB kd fl) vl) 0 n → Ok (DL_works_140 f (f + 6) (f + 7) (f + 8) (nI n) (f + 9) (f + 10) l10 l12 τ) Q) :
    ∀ (d i m : Nat) (τ : Sg) (l12 : Int64), i + d = n → d < m → F25 σ f fl kd i τ → l12.toInt = sI (ptS (fiB kd fl) vl) 0 i → Ok (DL_works_25 m f (f + 5) (f + 6) (f + 7) (f + 8) (nI n) (f + 9) (f + 10) l10 l12 (nI i) τ) Q := by
  have h8 := a9.2.2.2
  intro d
  induction d with
  | zero =>
    intro i m τ l12 hi hm hF hl
    obtain ⟨m, rfl⟩ : ∃ k, m = k + 1 := ⟨m - 1, by omega⟩
    rw [DL_works_25, if_pos ((nI_leI (by omega) (by omega)).mpr (by omega))]
    rw [show i = n by omega] at hF hl
    exact hQ τ l12 hF hl
  | succ d ih =>
    intro i m τ l12 hi hm hF hl
    obtain ⟨m, rfl⟩ : ∃ k, m = k + 1 := ⟨m - 1, by omega⟩
    obtain ⟨hfr, hv1, hv2⟩ := hF
    have hi' : i < n := by omega
    have hW := h.fr hfr (fun _ _ => rfl) (fun k a b => fA_no (by simp; omega))
    obtain ⟨c1, c2, ⟨r0, r1, r2, r3⟩, ⟨s1, s2, s3, s4, s5, s6, s7, s8⟩, v1, v2, v3, v4⟩ := hW
    have b9 := a9.fr hfr
    have b10 := a10.fr hfr
    have iB : ∀ X : Sg, ∀ {k y}, AR X k y n → ckB X k y (nI i) = true := fun X {k y} h => h.b hi'
    have sl := sI_last (f := ptS (fiB kd fl) vl) i 0
    rw [Nat.zero_add] at sl
    have hvi := hv i hi'
    have sb := sI_b2 (g := ptS (fiB kd fl) vl) (B := 9999999) (by omega) i 0 (fun k _ b => by
      have := hv k (by omega)
      unfold ptS
      split <;> omega)
    have hc : (nI i).toNatClampNeg = i := nI_clamp (by omega)
    have k01 : ∀ w : Bool, ck01 (bN w) = true := fun w => by cases w <;> decide
    obtain ⟨τ2, hτ2⟩ : ∃ τ2, wI (wI τ (f + 9) i (bN (fiB kd fl i))) (f + 10) i (bN (otB kd fl i)) = τ2 := ⟨_, rfl⟩
    have p9 : aI τ2 (f + 9) i = bN (fiB kd fl i) := by rw [← hτ2, aI_wI, if_neg (by omega), aI_wI, if_pos ⟨rfl, rfl⟩]
    have p8 : aI τ2 (f + 8) i = kd i := by rw [← hτ2, aI_wI, if_neg (by omega), aI_wI, if_neg (by omega)]; exact v4 i hi'
    have p7 : (aJ τ2 (f + 7) i).toInt = vl i := by rw [← hτ2, aJ_wI, aJ_wI]; exact v3 i hi'
    have f2 : Fr (fF []) (fA [f + 4, f + 9, f + 10]) σ τ2 := by rw [← hτ2]; exact (hfr.wI (f + 9) i _ (fA_in (by simp))).wI (f + 10) i _ (fA_in (by simp))
    have q1 : FO τ2 f := by rw [← hτ2]; exact c1
    have q2 : gR τ2 f 3 = f + 4 := by rw [← hτ2]; exact r3
    have q3 : AR τ2 2 (f + 4) n := by rw [← hτ2]; exact s4
    have q4 : AR τ2 2 (f + 8) n := by rw [← hτ2]; exact s8
    have q5 : AR τ2 4 (f + 7) n := by rw [← hτ2]; exact s7
    have q6 : AR τ2 3 (f + 9) n := by rw [← hτ2]; exact b9
    have old : ∀ k, k ≠ i → aI τ2 (f + 9) k = aI τ (f + 9) k ∧ aI τ2 (f + 10) k = aI τ (f + 10) k := fun k hk => by
      rw [← hτ2]
      exact ⟨by rw [aI_wI, if_neg (by omega), aI_wI, if_neg (fun z => hk z.2)], by rw [aI_wI, if_neg (fun z => hk z.2), aI_wI, if_neg (by omega)]⟩
    have p10 : aI τ2 (f + 10) i = bN (otB kd fl i) := by rw [← hτ2, aI_wI, if_pos ⟨rfl, rfl⟩]
    have o4 : ∀ k, aI τ2 (f + 4) k = aI τ (f + 4) k := fun k => by rw [← hτ2, aI_wI, if_neg (by omega), aI_wI, if_neg (by omega)]
    have nx : ∀ (τ3 : Sg) (v : Int64), Fr (fF []) (fA [f + 4, f + 9, f + 10]) σ τ3 → (∀ k, aI τ3 (f + 9) k = aI τ2 (f + 9) k) → (∀ k, aI τ3 (f + 10) k = aI τ2 (f + 10) k) → (∀ k, aI τ3 (f + 4) k = if k = i ∧ fiB kd fl i = true then kd i else aI τ2 (f + 4) k) → v.toInt = ptS (fiB kd fl) vl i → Ok (DL_works_25 m f (f + 5) (f + 6) (f + 7) (f + 8) (nI n) (f + 9) (f + 10) l10 (l12 + v) (nI (i + 1)) τ3) Q := by
      intro τ3 v g0 g9 g10 g4 gv
      have pb : 0 ≤ ptS (fiB kd fl) vl i ∧ ptS (fiB kd fl) vl i ≤ 9999999 := by
        unfold ptS
        split <;> omega
      refine ih (i + 1) m τ3 _ (by omega) (by omega) ⟨g0, fun k hk => ?_, fun k hk => ?_⟩ ?_
      · by_cases z : k = i
        · subst z
          refine ⟨by rw [g9, p9], by rw [g10, p10], ?_⟩
          rw [g4, o4, hv2 k (Nat.le_refl _)]
          by_cases y : fiB kd fl k = true
          · rw [if_pos ⟨rfl, y⟩, if_pos y]
          · rw [if_neg (fun x => y x.2), if_neg y]
        · obtain ⟨x1, x2, x3⟩ := hv1 k (by omega)
          exact ⟨by rw [g9, (old k z).1]; exact x1, by rw [g10, (old k z).2]; exact x2, by rw [g4, if_neg (fun x => z x.1), o4]; exact x3⟩
      · rw [g4, if_neg (fun x => by omega), o4]
        exact hv2 k (by omega)
      · rw [l_add (by unfold sm; rw [hl, gv]; omega), hl, gv, sl]
    have tail : Ok (DL_works_91 (DL_works_25 m) f (f + 5) (f + 6) (f + 7) (f + 8) (nI n) (f + 9) (f + 10) l10 l12 (nI i) (f + 10) (nI i) (bN (otB kd fl i)) (wI τ (f + 9) i (bN (fiB kd fl i)))) Q := by
      have b10' : AR (wI τ (f + 9) i (bN (fiB kd fl i))) 3 (f + 10) n := b10
      unfold DL_works_91 DL_works_111 DL_works_134
      rw [iB _ b10', chk_true, k01, chk_true, hc, wlet_eq, hτ2, iB _ q6, chk_true, p9, show nI i + (1 : Int32) = nI (i + 1) from nI_add _ _]
      cases e : fiB kd fl i with
      | true =>
        rw [if_neg (by decide), iB _ q5, chk_true, if_neg (by decide), q1.p, chk_true, q2, show ckV (f + 4) = true from decide_eq_true (by omega), chk_true, q4.a hi', chk_true, iB _ q3, chk_true, wlet_eq, p8]
        refine nx _ _ (f2.wI (f + 4) i _ (fA_in (by simp))) (fun k => by rw [aI_wI, if_neg (by omega)]) (fun k => by rw [aI_wI, if_neg (by omega)]) (fun k => ?_) ?_
        · rw [aI_wI, e]
          by_cases z : k = i
          · rw [if_pos ⟨rfl, z⟩, if_pos ⟨z, rfl⟩]
          · rw [if_neg (fun x => z x.2), if_neg (fun x => z x.1)]
        · unfold ptS
          rw [e, if_pos rfl]
          exact p7
      | false =>
        rw [if_pos (by decide), if_pos (by decide)]
        refine nx τ2 0 f2 (fun _ => rfl) (fun _ => rfl) (fun k => ?_) ?_
        · rw [if_neg (fun x => by rw [e] at x; cases x.2)]
        · unfold ptS
          rw [e]
          rfl
    have go : Ok (DL_works_66 (DL_works_25 m) f (f + 5) (f + 6) (f + 7) (f + 8) (nI n) (f + 9) (f + 10) l10 l12 (nI i) (f + 9) (nI i) (bN (fiB kd fl i)) τ) Q := by
      have s5' : AR (wI τ (f + 9) i (bN (fiB kd fl i))) 3 (f + 5) n := s5
      have b9' : AR (wI τ (f + 9) i (bN (fiB kd fl i))) 3 (f + 9) n := b9
      have g5 : aI (wI τ (f + 9) i (bN (fiB kd fl i))) (f + 5) i = bN (decide (fl ≤ i)) := by rw [aI_wI, if_neg (by omega)]; exact v1 i hi'
      have g9' : aI (wI τ (f + 9) i (bN (fiB kd fl i))) (f + 9) i = bN (fiB kd fl i) := by rw [aI_wI, if_pos ⟨rfl, rfl⟩]
      unfold DL_works_66 DL_works_90
      rw [iB _ b9, chk_true, k01, chk_true, hc, wlet_eq, iB _ s5', chk_true, iB _ b9', chk_true, g5, g9']
      have eo : otB kd fl i = (decide (fl ≤ i) && !fiB kd fl i) := by
        unfold otB fiB
        cases decide (fl ≤ i) <;> cases isF kd i <;> rfl
      rw [eo] at tail
      cases e1 : decide (fl ≤ i) with
      | false =>
        rw [if_pos (by decide)]
        rw [e1] at tail
        exact tail
      | true =>
        rw [if_neg (by decide)]
        rw [e1] at tail
        cases e2 : fiB kd fl i with
        | true =>
          rw [if_neg (by decide)]
          rw [e2] at tail
          exact tail
        | false =>
          rw [if_pos (by decide)]
          rw [e2] at tail
          exact tail
    rw [DL_works_25, if_neg (fun z => by have := (nI_leI (by omega) (by omega)).mp z; omega), iB _ s5, chk_true, hc, v1 i hi']
    unfold DL_works_61 DL_works_65
    by_cases q : fl ≤ i
    · rw [decide_eq_true q, if_neg (by decide), s8.a hi', chk_true, v4 i hi']
      by_cases q1 : kd i = 1
      · rw [if_pos q1]
        have : fiB kd fl i = true := by unfold fiB isF; simp [q, q1]
        rw [this] at go
        exact go
      · rw [if_neg q1, chk_true]
        by_cases q2 : kd i = 2
        · rw [if_pos q2]
          have : fiB kd fl i = true := by unfold fiB isF; simp [q, q2]
          rw [this] at go
          exact go
        · rw [if_neg q2]
          have : fiB kd fl i = false := by unfold fiB isF; simp [q1, q2]
          rw [this] at go
          exact go
    · rw [decide_eq_false q, if_pos (by decide)]
      have : fiB kd fl i = false := by unfold fiB; simp [q]
      rw [this] at go
      exact go
end

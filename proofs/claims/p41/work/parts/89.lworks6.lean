/-! THE LAW WORKS: what stays, with what is made counted -/
/-- all of X stays; k cells are made, of no more than 8 slots -/
def HX (X : Nat → Prop) (σ τ : Sg) (k : Nat) : Prop := (∀ a, X a → Sm σ τ a) ∧ (∀ a, X a → ∀ i j, aG τ a i j = aG σ a i j) ∧ gN τ = gN σ ∧ gM σ ≤ gM τ ∧ gM τ ≤ gM σ + k ∧ gZ σ ≤ gZ τ ∧ gZ τ ≤ gZ σ + 8 * k
def XF (f a : Nat) : Prop := a < f ∨ a = f + 3
section
variable {σ τ υ : Sg} {f n fl k j : Nat} {X Y : Nat → Prop}
theorem HX.rf : HX X σ σ 0 := ⟨fun _ _ => Sm.rf, fun _ _ _ _ => rfl, rfl, Nat.le_refl _, by omega, Nat.le_refl _, by omega⟩
theorem HX.tr (h : HX X σ τ k) (h' : HX X τ υ j) : HX X σ υ (k + j) := by
  obtain ⟨a1, a4, a3, a5, a6, a7, a8⟩ := h
  obtain ⟨b1, b4, b3, b5, b6, b7, b8⟩ := h'
  exact ⟨fun a ha => (a1 a ha).tr (b1 a ha), fun a ha i j => (b4 a ha i j).trans (a4 a ha i j), b3.trans a3, by omega, by omega, by omega, by omega⟩
theorem HX.wk (h : HX X σ τ k) (hY : ∀ a, Y a → X a) (hk : k ≤ j) : HX Y σ τ j := by
  obtain ⟨a1, a4, a3, a5, a6, a7, a8⟩ := h
  exact ⟨fun a ha => a1 a (hY a ha), fun a ha => a4 a (hY a ha), a3, a5, by omega, a7, by omega⟩
theorem hx_mkD {s m : Nat} (hX : ¬ X (2000 + gM σ)) (hn : m ≤ 8) : HX X σ (mkD σ s n m) 1 := by
  refine ⟨fun a ha => ?_, fun _ _ _ _ => rfl, rfl, by rw [gM_mkD]; omega, by rw [gM_mkD]; omega, by rw [gZ_mkD]; omega, by rw [gZ_mkD]; omega⟩
  obtain ⟨m1, m2, m3, m4, m5, m6⟩ := mkD_o (σ := σ) (k := s) (n := n) (z := m) (show a ≠ 2000 + gM σ from fun z => hX (z ▸ ha))
  exact ⟨m1, m2, m3, m4, m5, m6⟩
theorem hx_fr {l : List (Nat × Nat)} {m : List Nat} (h : Fr (fF l) (fA m) σ τ) (hl : ∀ q ∈ l, ¬ X q.1) (hm : ∀ a ∈ m, ¬ X a) : HX X σ τ 0 := by
  obtain ⟨m1, m2, m3⟩ := fr_M h
  have m4 : gZ τ = gZ σ := congrArg (fun w : Tg => w.2.2.2.1) h.2.2.2
  have e1 : ∀ a j, X a → fF l a j = false := fun a j ha => fF_no (fun z => hl _ z ha)
  have e2 : ∀ a, X a → fA m a = false := fun a ha => fA_no (fun z => hm _ z ha)
  exact ⟨fun a ha => ⟨fun j => h.I a j (e1 a j ha), fun j => h.J a j (e1 a j ha), fun j => h.R a j (e1 a j ha), fun j => h.aI a (e2 a ha) j, fun j => h.aJ a (e2 a ha) j, by rw [m2]⟩, fun a ha i j => h.aG a (e2 a ha) i j, m3, by omega, by omega, by omega, by omega⟩
/-! what stands over a making -/
theorem AR.mk {s y t : Nat} (h : AR σ k y n) : AR (mkD σ s t t) k y n := by
  obtain ⟨a1, a2, a3, a4⟩ := h
  exact ⟨by rw [gS_mkD, if_neg (by omega)]; exact a1, a2, by rw [gM_mkD]; omega, a4⟩
theorem ar_new {s : Nat} (hn : n ≤ 8) : AR (mkD σ s n n) s (2000 + gM σ) n := ⟨by rw [gS_mkD, if_pos rfl], by omega, by rw [gM_mkD]; omega, hn⟩
theorem FO.mk {s t : Nat} (h : FO σ f) : FO (mkD σ s t t) f := by
  obtain ⟨a1, a2, a3⟩ := h
  exact ⟨by rw [gS_mkD, if_neg (by omega)]; exact a1, a2, by rw [gM_mkD]; omega⟩
theorem WK.mk {kd : Nat → Int32} {vl fc : Nat → Int} {s t : Nat} (h : WK σ f n fl kd vl fc) : WK (mkD σ s t t) f n fl kd vl fc := by
  obtain ⟨a1, a2, ⟨r0, r1, r2, r3⟩, ⟨s1, s2, s3, s4, s5, s6, s7, s8⟩, v1, v2, v3, v4⟩ := h
  have hf := a1.2.2
  have h8 := s8.2.2.1
  refine ⟨a1.mk, a2, ⟨by rw [gR_mkD, if_neg (by omega)]; exact r0, by rw [gR_mkD, if_neg (by omega)]; exact r1, by rw [gR_mkD, if_neg (by omega)]; exact r2, by rw [gR_mkD, if_neg (by omega)]; exact r3⟩, ⟨s1.mk, s2.mk, s3.mk, s4.mk, s5.mk, s6.mk, s7.mk, s8.mk⟩, fun j hj => ?_, fun j hj => ?_, fun j hj => ?_, fun j hj => ?_⟩
  · rw [aI_mkD, if_neg (by omega)]; exact v1 j hj
  · rw [aJ_mkD, if_neg (by omega)]; exact v2 j hj
  · rw [aJ_mkD, if_neg (by omega)]; exact v3 j hj
  · rw [aI_mkD, if_neg (by omega)]; exact v4 j hj
theorem ckn_n (hn : n ≤ 8) : ckn (nI n) = true := by
  unfold ckn
  simp only [Bool.and_eq_true, decide_eq_true_eq]
  exact ⟨nI_pos' (by omega), (le_nI (b := 60000) (by omega) (by decide)).mpr (by omega)⟩
end
/-! the amounts given to those that are beyond -/
section
variable {σ : Sg} {f n fl : Nat} {kd : Nat → Int32} {vl fc : Nat → Int}
theorem w_501 {K236 : Nat → Nat → Nat → Nat → Int32 → Nat → Int64 → Int32 → Sg → Option (Unit × Sg)} {K248 : Nat → Nat → Nat → Nat → Int32 → Nat → Int64 → Int32 → Nat → Sg → Option (Unit × Sg)} {Q : Unit → Sg → Prop} {l10 l19 : Int64} {w : Int32} {mi be : Nat} {y : Nat → Bool} (h : WK σ f n fl kd vl fc) (a10 : AR σ 3 (f + 10) n) (am : AR σ 3 mi n) (ab : AR σ 3 be n) (hmi : f + 11 ≤ mi) (hbe : mi < be) (hy : ∀ k, k < n → aI σ be k = bN (y k))
    (hQ : ∀ τ, Fr (fF []) (fA [f + 1, f + 10, mi]) σ τ → (∀ k, k < n → (aJ τ (f + 1) k).toInt = (if y k then vl k else (aJ σ (f + 1) k).toInt) ∧ aI τ (f + 10) k = (if y k then 0 else aI σ (f + 10) k) ∧ aI τ mi k = if y k then 1 else aI σ mi k) → Ok (DL_works_549 K236 K248 f (f + 6) (f + 7) (f + 8) (nI n) (f + 10) l10 w mi l19 τ) Q) :
    ∀ (d i m : Nat) (τ : Sg), i + d = n → d < m → Fr (fF []) (fA [f + 1, f + 10, mi]) σ τ → (∀ k, k < i → (aJ τ (f + 1) k).toInt = (if y k then vl k else (aJ σ (f + 1) k).toInt) ∧ aI τ (f + 10) k = (if y k then 0 else aI σ (f + 10) k) ∧ aI τ mi k = if y k then 1 else aI σ mi k) → (∀ k, i ≤ k → aJ τ (f + 1) k = aJ σ (f + 1) k ∧ aI τ (f + 10) k = aI σ (f + 10) k ∧ aI τ mi k = aI σ mi k) → Ok (DL_works_501 K236 K248 m f (f + 6) (f + 7) (f + 8) (nI n) (f + 10) l10 w mi be l19 (nI i) τ) Q := by
  have h8 := ab.2.2.2
  intro d
  induction d with
  | zero =>
    intro i m τ hi hm hfr hk hk2
    obtain ⟨m, rfl⟩ : ∃ k, m = k + 1 := ⟨m - 1, by omega⟩
    rw [DL_works_501, if_pos ((nI_leI (by omega) (by omega)).mpr (by omega))]
    exact hQ τ hfr (fun k a => hk k (by omega))
  | succ d ih =>
    intro i m τ hi hm hfr hk hk2
    obtain ⟨m, rfl⟩ : ∃ k, m = k + 1 := ⟨m - 1, by omega⟩
    have hi' : i < n := by omega
    have hc : (nI i).toNatClampNeg = i := nI_clamp (by omega)
    have bb := ab.fr hfr
    have bm := am.fr hfr
    have b10 := a10.fr hfr
    obtain ⟨c1, c2, ⟨r0, r1, r2, r3⟩, ⟨s1, s2, s3, s4, s5, s6, s7, s8⟩, v1, v2, v3, v4⟩ := h.fr hfr (fun _ _ => rfl) (fun k a b => fA_no (by simp; omega))
    have eb : aI τ be i = bN (y i) := (hfr.aI be (fA_no (by simp; omega)) i).trans (hy i hi')
    rw [DL_works_501, if_neg (fun z => by have := (nI_leI (by omega) (by omega)).mp z; omega), bb.b hi', chk_true, hc, eb]
    unfold DL_works_543
    rw [show nI i + (1 : Int32) = nI (i + 1) from nI_add _ _]
    cases e : y i with
    | true =>
      have d1 : AR (wJ τ (f + 1) i (aJ τ (f + 7) i)) 3 (f + 10) n := b10
      have d2 : AR (wI (wJ τ (f + 1) i (aJ τ (f + 7) i)) (f + 10) i 0) 3 mi n := bm
      rw [if_neg (by decide), c1.p, chk_true, r0, show ckV (f + 1) = true from decide_eq_true (by omega), chk_true, s7.b hi', chk_true, s1.b hi', chk_true, wlet_eq, d1.b hi', chk_true, ck01_0, chk_true, wlet_eq, d2.b hi', chk_true, ck01_1, chk_true, wlet_eq]
      refine ih (i + 1) m _ (by omega) (by omega) (((hfr.wJ (f + 1) i _ (fA_in (by simp))).wI (f + 10) i _ (fA_in (by simp))).wI mi i _ (fA_in (by simp))) (fun k a => ?_) (fun k a => ?_)
      · have w1 : aJ (wI (wI (wJ τ (f + 1) i (aJ τ (f + 7) i)) (f + 10) i 0) mi i 1) (f + 1) k = if k = i then aJ τ (f + 7) i else aJ τ (f + 1) k := by
          rw [aJ_wI, aJ_wI, aJ_wJ]
          by_cases z : k = i
          · rw [if_pos ⟨rfl, z⟩, if_pos z]
          · rw [if_neg (fun x => z x.2), if_neg z]
        have w2 : aI (wI (wI (wJ τ (f + 1) i (aJ τ (f + 7) i)) (f + 10) i 0) mi i 1) (f + 10) k = if k = i then 0 else aI τ (f + 10) k := by
          rw [aI_wI, if_neg (show ¬ (f + 10 = mi ∧ k = i) by omega), aI_wI, aI_wJ]
          by_cases z : k = i
          · rw [if_pos ⟨rfl, z⟩, if_pos z]
          · rw [if_neg (fun x => z x.2), if_neg z]
        have w3 : aI (wI (wI (wJ τ (f + 1) i (aJ τ (f + 7) i)) (f + 10) i 0) mi i 1) mi k = if k = i then 1 else aI τ mi k := by
          rw [aI_wI, aI_wI, if_neg (show ¬ (mi = f + 10 ∧ k = i) by omega), aI_wJ]
          by_cases z : k = i
          · rw [if_pos ⟨rfl, z⟩, if_pos z]
          · rw [if_neg (fun x => z x.2), if_neg z]
        rw [w1, w2, w3]
        by_cases z : k = i
        · subst z
          rw [if_pos rfl, if_pos rfl, if_pos rfl, e]
          exact ⟨v3 k hi', rfl, rfl⟩
        · rw [if_neg z, if_neg z, if_neg z]
          exact hk k (by omega)
      · rw [aJ_wI, aJ_wI, aJ_wJ, if_neg (fun x => by omega), aI_wI, if_neg (fun x => by omega), aI_wI, if_neg (fun x => by omega), aI_wJ, aI_wI, if_neg (fun x => by omega), aI_wI, if_neg (fun x => by omega), aI_wJ]
        exact hk2 k (by omega)
    | false =>
      rw [if_pos (by decide)]
      refine ih (i + 1) m τ (by omega) (by omega) hfr (fun k a => ?_) (fun k a => hk2 k (by omega))
      by_cases z : k = i
      · subst z
        obtain ⟨x1, x2, x3⟩ := hk2 k (Nat.le_refl _)
        rw [e, x1, x2, x3]
        exact ⟨rfl, rfl, rfl⟩
      · exact hk k (by omega)
end

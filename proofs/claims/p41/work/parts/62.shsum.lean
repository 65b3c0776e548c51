/-! shares make up the fare -/
theorem gv_max {r : Nat → Int} {fl : Nat} {G : Nat → Bool} : ∀ d, (∀ k, fl ≤ k → k < fl + d → G k = true) ∨ ∃ j, fl ≤ j ∧ j < fl + d ∧ G j = false ∧ ∀ k, fl ≤ k → k < fl + d → G k = false → k = j ∨ bt r j k = true
  | 0 => Or.inl (fun k a b => by omega)
  | d + 1 => by
    rcases gv_max (r := r) (fl := fl) (G := G) d with h | ⟨j, h1, h2, h3, h4⟩
    · cases hg : G (fl + d) with
      | true => exact Or.inl (fun k a b => by
          rcases Nat.lt_or_ge k (fl + d) with q | q
          · exact h k a q
          · rw [show k = fl + d by omega]; exact hg)
      | false => exact Or.inr ⟨fl + d, by omega, by omega, hg, fun k a b z => by
          rcases Nat.lt_or_ge k (fl + d) with q | q
          · rw [h k a q] at z; cases z
          · exact Or.inl (by omega)⟩
    · cases hg : G (fl + d) with
      | true => exact Or.inr ⟨j, h1, by omega, h3, fun k a b z => by
          rcases Nat.lt_or_ge k (fl + d) with q | q
          · exact h4 k a q z
          · rw [show k = fl + d by omega, hg] at z; cases z⟩
      | false =>
        by_cases hb : bt r j (fl + d) = true
        · exact Or.inr ⟨j, h1, by omega, h3, fun k a b z => by
            rcases Nat.lt_or_ge k (fl + d) with q | q
            · exact h4 k a q z
            · rw [show k = fl + d by omega]; exact Or.inr hb⟩
        · have hb2 : bt r (fl + d) j = true := by
            rcases bt_tot (r := r) (show j ≠ fl + d by omega) with q | q
            · exact absurd q hb
            · exact q
          refine Or.inr ⟨fl + d, by omega, by omega, hg, fun k a b z => ?_⟩
          rcases Nat.lt_or_ge k (fl + d) with q | q
          · rcases h4 k a q z with q2 | q2
            · rw [q2]; exact Or.inr hb2
            · exact Or.inr (bt_trans hb2 q2)
          · exact Or.inl (by omega)
theorem gv_ex {r : Nat → Int} {fl n : Nat} (hn : fl ≤ n) : ∀ j, j ≤ n - fl → ∃ G, GvI r fl n G j
  | 0, _ => ⟨_, gv_zero⟩
  | j + 1, hj => by
    obtain ⟨G, hG⟩ := gv_ex (r := r) hn j (by omega)
    rcases gv_max (r := r) (fl := fl) (G := G) (n - fl) with h | ⟨i, h1, h2, h3, h4⟩
    · have := cN_full (p := G) (n - fl) fl h
      have := hG.1
      omega
    · exact ⟨_, gv_step hG h1 (by omega) h3 (fun k a b z => h4 k a (by omega) z)⟩
theorem rk_count {r : Nat → Int} {fl n L : Nat} (hn : fl ≤ n) (hL : L ≤ n - fl) : cN (fun k => decide (rk r fl n k < L)) fl (n - fl) = L := by
  obtain ⟨G, hG⟩ := gv_ex (r := r) hn L hL
  rw [cN_congr (q := G) (n - fl) fl (fun k a b => (gv_rk hG a (by omega)).symm)]
  exact hG.1
theorem sI_cN {p : Nat → Bool} : ∀ (d i : Nat), sI (fun k => if p k then (1 : Int) else 0) i d = (cN p i d : Int)
  | 0, _ => rfl
  | d + 1, i => by
    unfold sI cN
    rw [sI_cN d (i + 1)]
    split <;> simp
theorem shF_sum {r : RT} {fl n : Nat} {P0 : Int} (hn : fl ≤ n) (h : PrOK fl n P0 r) : sI (shF r fl n (lfF r fl n P0)) fl (n - fl) = P0 := by
  obtain ⟨l1, l2, -⟩ := lf_bd h
  obtain ⟨L, hL⟩ : ∃ L : Nat, lfF r fl n P0 = (L : Int) := ⟨(lfF r fl n P0).toNat, (Int.toNat_of_nonneg l1).symm⟩
  have hc := rk_count (r := fun k => r.2.2.1 k % r.2.2.2.1) (L := L) hn (by omega)
  have e1 : sI (shF r fl n (lfF r fl n P0)) fl (n - fl) = sI (fun k => r.2.1 k + r.2.2.1 k / r.2.2.2.1) fl (n - fl) + sI (fun k => if (decide (rk (fun k => r.2.2.1 k % r.2.2.2.1) fl n k < L)) then (1 : Int) else 0) fl (n - fl) := by
    rw [← sI_add]
    refine sI_congr _ _ (fun k a b => ?_)
    unfold shF
    rw [hL]
    congr 1
    by_cases q : rk (fun k => r.2.2.1 k % r.2.2.2.1) fl n k < L
    · rw [if_pos (by omega), decide_eq_true q, if_pos rfl]
    · rw [if_neg (by omega), decide_eq_false q]; rfl
  rw [e1, sI_cN, hc, ← hL]
  unfold lfF
  omega
theorem shF_nn {r : RT} {fl n k : Nat} {P0 L : Int} (h : PrOK fl n P0 r) (a : fl ≤ k) (b : k < n) : 0 ≤ shF r fl n L k := by
  obtain ⟨h1, h2, -⟩ := h
  have := (h1 k a b).1
  have := Int.ediv_nonneg (h1 k a b).2.2 (Int.le_of_lt h2)
  unfold shF
  split <;> omega
theorem InvB.pok {σ : Sg} {b t f : Nat} {W tn : Nat → Nat} {how sk : Int32} {car sh : Nat → Int32} (h : InvB σ b W tn) (ht : t < W 9) (hc : CfOK σ b t (tn t) f sh) :
    PrOK f (tn t) (PC σ b t f sh) (RC σ b W (tn t) t how sk car f sh) := by
  obtain ⟨c1, c2, c3, c4⟩ := hc
  have fb := (h.k t ht).2.2.2.2.2.2.2.1
  have s0 := sI_nn0 (f := fun k => (sh k).toInt) f c2
  have eP : PC σ b t f sh = (aG σ (b + 9) t 0).toInt - sI (fun k => (sh k).toInt) 0 f := rfl
  exact pr_ok c1 (by rw [eP]; omega) (fun z => by rw [eP, c4 z]; omega) (fun k a c => (h.vl ht sk car).1) (fun k a c => (h.fc ht c how car).1)
theorem InvB.shnn {σ : Sg} {b t f k : Nat} {W tn : Nat → Nat} {how sk : Int32} {car sh : Nat → Int32} (h : InvB σ b W tn) (ht : t < W 9) (hc : CfOK σ b t (tn t) f sh) (hk : k < tn t) : 0 ≤ SHC σ b W (tn t) t how sk car f sh k := by
  unfold SHC
  split
  · exact hc.2.1 k (by assumption)
  · exact shF_nn (h.pok ht hc) (by omega) hk
theorem InvB.shsum {σ : Sg} {b t f : Nat} {W tn : Nat → Nat} {how sk : Int32} {car sh : Nat → Int32} (h : InvB σ b W tn) (ht : t < W 9) (hc : CfOK σ b t (tn t) f sh) :
    sI (SHC σ b W (tn t) t how sk car f sh) 0 (tn t) = (aG σ (b + 9) t 0).toInt := by
  have c1 := hc.1
  have e := sI_split (f := SHC σ b W (tn t) t how sk car f sh) f (tn t - f) 0
  rw [show f + (tn t - f) = tn t by omega, Nat.zero_add] at e
  have e1 : sI (SHC σ b W (tn t) t how sk car f sh) 0 f = sI (fun k => (sh k).toInt) 0 f := sI_congr _ _ (fun k _ hk => by unfold SHC; rw [if_pos (by omega)])
  have e2 : sI (SHC σ b W (tn t) t how sk car f sh) f (tn t - f) = PC σ b t f sh := by
    rw [sI_congr (g := shF (RC σ b W (tn t) t how sk car f sh) f (tn t) (LFC σ b W (tn t) t how sk car f sh)) _ _ (fun k a _ => by unfold SHC; rw [if_neg (by omega)])]
    exact shF_sum c1 (h.pok ht hc)
  rw [e, e1, e2]
  unfold PC
  omega
theorem InvB.shle {σ : Sg} {b t f k : Nat} {W tn : Nat → Nat} {how sk : Int32} {car sh : Nat → Int32} (h : InvB σ b W tn) (ht : t < W 9) (hc : CfOK σ b t (tn t) f sh) (hk : k < tn t) : SHC σ b W (tn t) t how sk car f sh k ≤ (aG σ (b + 9) t 0).toInt ∧ (aG σ (b + 9) t 0).toInt ≤ 9999999 := by
  have := sI_mem (f := SHC σ b W (tn t) t how sk car f sh) (tn t) 0 (fun j _ hj => h.shnn ht hc (by omega)) k (Nat.zero_le _) (by omega)
  rw [h.shsum ht hc] at this
  exact ⟨this, (h.k t ht).2.2.2.2.2.2.2.1.2⟩

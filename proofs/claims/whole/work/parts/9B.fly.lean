/-! fly -/
theorem sI_upd {f g : Nat → Int} {j : Nat} : ∀ (d i : Nat), i ≤ j → j < i + d → (∀ k, k ≠ j → g k = f k) → sI g i d = sI f i d + (g j - f j)
  | 0, i, h1, h2, _ => by omega
  | d + 1, i, h1, h2, h => by
    unfold sI
    by_cases q : i = j
    · subst q
      rw [sI_congr (f := g) (g := f) d (i + 1) (fun k a b => h k (by omega))]
      omega
    · rw [sI_upd d (i + 1) (by omega) (by omega) h, h i q]
      omega
def upF (fl : Nat → Nat) (t v : Nat) (x : Nat) : Nat := if x = t then v else fl x
def nwF (nw : Nat → Int32) (t k : Nat) (v : Int32) (c s : Nat) : Nat → Int32 := if c = s then up1 (up1 nw (64 + 8 * t + k) 1) (128 + 8 * t + k) v else up1 (up1 (up1 nw (64 + 8 * t + k) 1) (128 + 8 * t + k) v) (192 + 6 * c + s) (nw (192 + 6 * c + s) + v)
theorem nwF_lo {nw : Nat → Int32} {t k c s x : Nat} {v : Int32} (hx : x ≠ 64 + 8 * t + k) (hx2 : x ≠ 128 + 8 * t + k) (hx3 : x ≠ 192 + 6 * c + s) : nwF nw t k v c s x = nw x := by
  unfold nwF up1
  split <;> simp [hx, hx2, hx3]
theorem nwF_1 {nw : Nat → Int32} {t k c s : Nat} {v : Int32} (ht : t < 8) (hk : k < 8) (hc : c < 6) (hs : s < 6) : nwF nw t k v c s (64 + 8 * t + k) = 1 := by
  by_cases q : c = s
  · rw [show nwF nw t k v c s (64 + 8 * t + k) = up1 (up1 nw (64 + 8 * t + k) 1) (128 + 8 * t + k) v (64 + 8 * t + k) from congrFun (if_pos q) _]
    unfold up1
    rw [if_neg (by omega), if_pos rfl]
  · rw [show nwF nw t k v c s (64 + 8 * t + k) = up1 (up1 (up1 nw (64 + 8 * t + k) 1) (128 + 8 * t + k) v) (192 + 6 * c + s) (nw (192 + 6 * c + s) + v) (64 + 8 * t + k) from congrFun (if_neg q) _]
    unfold up1
    rw [if_neg (by omega), if_neg (by omega), if_pos rfl]
theorem nwF_2 {nw : Nat → Int32} {t k c s : Nat} {v : Int32} (ht : t < 8) (hk : k < 8) (hc : c < 6) (hs : s < 6) : nwF nw t k v c s (128 + 8 * t + k) = v := by
  by_cases q : c = s
  · rw [show nwF nw t k v c s (128 + 8 * t + k) = up1 (up1 nw (64 + 8 * t + k) 1) (128 + 8 * t + k) v (128 + 8 * t + k) from congrFun (if_pos q) _]
    unfold up1
    rw [if_pos rfl]
  · rw [show nwF nw t k v c s (128 + 8 * t + k) = up1 (up1 (up1 nw (64 + 8 * t + k) 1) (128 + 8 * t + k) v) (192 + 6 * c + s) (nw (192 + 6 * c + s) + v) (128 + 8 * t + k) from congrFun (if_neg q) _]
    unfold up1
    rw [if_neg (by omega), if_pos rfl]
theorem nwF_3 {nw : Nat → Int32} {t k c s c' d : Nat} {v : Int32} (ht : t < 8) (hk : k < 8) (hc : c < 6) (hs : s < 6) (hc' : c' < 6) (hd : d < 6) : nwF nw t k v c s (192 + 6 * c' + d) = if c ≠ s ∧ c' = c ∧ d = s then nw (192 + 6 * c + s) + v else nw (192 + 6 * c' + d) := by
  by_cases q : c = s
  · rw [show nwF nw t k v c s (192 + 6 * c' + d) = up1 (up1 nw (64 + 8 * t + k) 1) (128 + 8 * t + k) v (192 + 6 * c' + d) from congrFun (if_pos q) _]
    unfold up1
    rw [if_neg (by omega), if_neg (by omega), if_neg (fun z => z.1 q)]
  · rw [show nwF nw t k v c s (192 + 6 * c' + d) = up1 (up1 (up1 nw (64 + 8 * t + k) 1) (128 + 8 * t + k) v) (192 + 6 * c + s) (nw (192 + 6 * c + s) + v) (192 + 6 * c' + d) from congrFun (if_neg q) _]
    unfold up1
    by_cases q2 : c' = c ∧ d = s
    · rw [if_pos (by omega), if_pos ⟨q, q2⟩]
    · rw [if_neg (by omega), if_neg (by omega), if_neg (by omega), if_neg (fun z => q2 z.2)]
theorem addB_n {c s : Nat} {v : Int32} {B : Nat → Nat → Int32} (hc : c < 2147483648) (hs : s < 2147483648) : addB (nI c) (nI s) v B = if c = s then B else up2 B c s (B c s + v) := by
  unfold addB
  by_cases q : c = s
  · rw [if_pos q, if_pos (by rw [q])]
  · rw [if_neg q, if_neg (fun z => q ((nI_eq hc hs).mp z)), nI_clamp hc, nI_clamp hs]
theorem good_fly {σ : Sg} {b t c s : Nat} {W tn fl : Nat → Nat} {v : Int32} (h : Inv σ b W tn fl) (ht : t < W 9) (hk : fl t < tn t) (hv : v.toInt = shN σ b W tn fl t (fl t)) (hc : aG σ 30 t (fl t) = nI c) (hc2 : c < W 2) (hs : aG σ (b + 9) t 3 = nI s) (hs2 : s < W 2) :
    GoodL σ b W tn (upF fl t (fl t + 1)) (up1 (aI σ 28) t (nI (fl t + 1)), aI σ 29, aG σ 30, up2 (aG σ 31) t (fl t) v, addB (nI c) (nI s) v (aG σ 32), aI σ 33) (nwF (aI σ 61) t (fl t) v c s) := by
  have bd := h.b.c.bd
  have n8 := h.n8 ht
  have g := good_of h.l h.g
  obtain ⟨k1, k2, k3, k4⟩ := g
  have vb := h.shb ht hk
  rw [← hv] at vb
  have hcs6 : c < 6 ∧ s < 6 := by omega
  have ecs : (nI c = nI s) = (c = s) := eq_nI (by omega) (by omega)
  have sN : ∀ m, m ≤ fl t → sI (shN σ b W tn fl t) 0 m = sI (fun k => (aG σ 31 t k).toInt) 0 m := fun m hm => sI_congr _ _ (fun j _ hj => by show (if j < fl t then _ else _) = _; rw [if_pos (by omega)])
  refine ⟨fun t' ht' => ?_, fun c' d hc' hd => ?_, fun c' hc' => ?_, ?_⟩
  · obtain ⟨b1, b2, b3, b4, b5, b6⟩ := k1 t' ht'
    have n8' := h.n8 ht'
    refine ⟨?_, by rw [nwF_lo (by omega) (by omega) (by omega)]; exact b2, b3, ?_, fun j hj => by rw [nwF_lo (by omega) (by omega) (by omega)]; exact b5 j hj, fun j hj => ?_⟩
    · show up1 (aI σ 28) t (nI (fl t + 1)) t' = nI (upF fl t (fl t + 1) t')
      unfold up1 upF
      split
      · rfl
      · exact b1
    · show CfOK σ b t' (tn t') (upF fl t (fl t + 1) t') (up2 (aG σ 31) t (fl t) v t')
      by_cases q : t' = t
      · subst q
        have e1 : upF fl t' (fl t' + 1) t' = fl t' + 1 := if_pos rfl
        have e2 : up2 (aG σ 31) t' (fl t') v t' (fl t') = v := if_pos ⟨rfl, rfl⟩
        have e3 : ∀ j, j < fl t' → up2 (aG σ 31) t' (fl t') v t' j = aG σ 31 t' j := fun j hj => if_neg (by omega)
        rw [e1]
        obtain ⟨c1, c2, c3, c4⟩ := b4
        have sl := sI_last (f := fun k => (up2 (aG σ 31) t' (fl t') v t' k).toInt) (fl t') 0
        rw [Nat.zero_add] at sl
        have e4 : sI (fun k => (up2 (aG σ 31) t' (fl t') v t' k).toInt) 0 (fl t') = sI (shN σ b W tn fl t') 0 (fl t') := by
          rw [sN _ (Nat.le_refl _)]
          exact sI_congr _ _ (fun j _ hj => by rw [e3 j (by omega)])
        have sl2 := sI_last (f := shN σ b W tn fl t') (fl t') 0
        rw [Nat.zero_add] at sl2
        have e5 : sI (fun k => (up2 (aG σ 31) t' (fl t') v t' k).toInt) 0 (fl t' + 1) = sI (shN σ b W tn fl t') 0 (fl t' + 1) := by
          rw [sl, sl2, e4]
          show _ + (up2 (aG σ 31) t' (fl t') v t' (fl t')).toInt = _
          rw [e2, hv]
        have tot := h.b.shsum (how := aG σ (b + 9) t' 1) (sk := -1) (car := aG σ 30 t') ht (h.cf ht)
        have sp := sI_split (f := shN σ b W tn fl t') (fl t' + 1) (tn t' - (fl t' + 1)) 0
        rw [show fl t' + 1 + (tn t' - (fl t' + 1)) = tn t' by omega, Nat.zero_add] at sp
        have tot' : sI (shN σ b W tn fl t') 0 (tn t') = (aG σ (b + 9) t' 0).toInt := tot
        have rn := sI_nn (f := shN σ b W tn fl t') (tn t' - (fl t' + 1)) (fl t' + 1) (fun j a _ => (h.shb ht (show j < tn t' by omega)).1)
        refine ⟨by omega, fun j hj => ?_, by rw [e5]; omega, fun z => ?_⟩
        · by_cases q2 : j < fl t'
          · rw [e3 j q2]; exact c2 j q2
          · rw [show j = fl t' by omega, e2]; omega
        · rw [e5, ← tot', z]
      · have e1 : upF fl t (fl t + 1) t' = fl t' := if_neg q
        rw [e1]
        exact b4.congr (fun j _ => if_neg (by omega))
    · have b6' := b6 j hj
      show nwF (aI σ 61) t (fl t) v c s (64 + 8 * t' + j) = (if j < upF fl t (fl t + 1) t' then 1 else 0) ∧ nwF (aI σ 61) t (fl t) v c s (128 + 8 * t' + j) = (if j < upF fl t (fl t + 1) t' then up2 (aG σ 31) t (fl t) v t' j else 0)
      by_cases q : t' = t ∧ j = fl t
      · obtain ⟨q1, q2⟩ := q
        subst q1
        subst q2
        have e1 : upF fl t' (fl t' + 1) t' = fl t' + 1 := if_pos rfl
        rw [e1, if_pos (by omega), if_pos (by omega)]
        have a1 : up2 (aG σ 31) t' (fl t') v t' (fl t') = v := if_pos ⟨rfl, rfl⟩
        rw [a1]
        exact ⟨nwF_1 (by omega) (by omega) (by omega) (by omega), nwF_2 (by omega) (by omega) (by omega) (by omega)⟩
      · rw [nwF_lo (by omega) (by omega) (by omega), nwF_lo (by omega) (by omega) (by omega)]
        have a1 : up2 (aG σ 31) t (fl t) v t' j = aG σ 31 t' j := if_neg q
        rw [a1]
        unfold upF
        by_cases q1 : t' = t
        · subst q1
          rw [if_pos rfl]
          by_cases q2 : j < fl t'
          · rw [if_pos q2, if_pos q2] at b6'
            rw [if_pos (by omega), if_pos (by omega)]
            exact b6'
          · rw [if_neg q2, if_neg q2] at b6'
            rw [if_neg (by omega), if_neg (by omega)]
            exact b6'
        · rw [if_neg q1]
          exact b6'
  · show nwF (aI σ 61) t (fl t) v c s (192 + 6 * c' + d) = addB (nI c) (nI s) v (aG σ 32) c' d ∧ 0 ≤ (addB (nI c) (nI s) v (aG σ 32) c' d).toInt ∧ (W 2 ≤ c' ∨ W 2 ≤ d → addB (nI c) (nI s) v (aG σ 32) c' d = 0)
    obtain ⟨d1, d2, d3⟩ := k2 c' d hc' hd
    have d1' : aI σ 61 (192 + 6 * c' + d) = aG σ 32 c' d := d1
    rw [addB_n (show c < 2147483648 by omega) (show s < 2147483648 by omega), nwF_3 (by omega) (by omega) (by omega) (by omega) hc' hd]
    by_cases q : c = s
    · rw [if_pos q, if_neg (fun z => z.1 q)]
      exact ⟨d1, d2, d3⟩
    · rw [if_neg q]
      unfold up2
      have bb := h.bl hc' hd
      by_cases q2 : c' = c ∧ d = s
      · obtain ⟨q3, q4⟩ := q2
        subst q3
        subst q4
        rw [if_pos ⟨q, rfl, rfl⟩, if_pos ⟨rfl, rfl⟩, d1']
        exact ⟨rfl, by rw [w_add (by omega) (by omega)]; omega, fun z => by omega⟩
      · rw [if_neg (fun z => q2 z.2), if_neg q2]
        exact ⟨d1, d2, d3⟩
  · rw [nwF_lo (by omega) (by omega) (by omega)]
    exact k3 c' hc'
  · -- together no more than what is flown
    have f1 : sI (fun t' => sI (fun k => (up2 (aG σ 31) t (fl t) v t' k).toInt) 0 (upF fl t (fl t + 1) t')) 0 (W 9) = sI (fun t' => sI (fun k => (aG σ 31 t' k).toInt) 0 (fl t')) 0 (W 9) + v.toInt := by
      have e := sI_upd (f := fun t' => sI (fun k => (aG σ 31 t' k).toInt) 0 (fl t')) (g := fun t' => sI (fun k => (up2 (aG σ 31) t (fl t) v t' k).toInt) 0 (upF fl t (fl t + 1) t')) (j := t) (W 9) 0 (Nat.zero_le _) (by omega) (fun t' ht' => by
        show sI (fun k => (up2 (aG σ 31) t (fl t) v t' k).toInt) 0 (upF fl t (fl t + 1) t') = sI (fun k => (aG σ 31 t' k).toInt) 0 (fl t')
        rw [show upF fl t (fl t + 1) t' = fl t' from if_neg ht']
        exact sI_congr _ _ (fun j _ _ => by rw [show up2 (aG σ 31) t (fl t) v t' j = aG σ 31 t' j from if_neg (fun z => ht' z.1)]))
      rw [e]
      have e2 : sI (fun k => (up2 (aG σ 31) t (fl t) v t k).toInt) 0 (upF fl t (fl t + 1) t) = sI (fun k => (aG σ 31 t k).toInt) 0 (fl t) + v.toInt := by
        rw [show upF fl t (fl t + 1) t = fl t + 1 from if_pos rfl, sI_last, Nat.zero_add, show up2 (aG σ 31) t (fl t) v t (fl t) = v from if_pos ⟨rfl, rfl⟩]
        rw [sI_congr (f := fun k => (up2 (aG σ 31) t (fl t) v t k).toInt) (g := fun k => (aG σ 31 t k).toInt) (fl t) 0 (fun j _ hj => by rw [show up2 (aG σ 31) t (fl t) v t j = aG σ 31 t j from if_neg (by omega)])]
      rw [e2]
      omega
    have f2 : sI (fun c' => sI (fun d => (addB (nI c) (nI s) v (aG σ 32) c' d).toInt) 0 6) 0 6 ≤ sI (fun c' => sI (fun d => (aG σ 32 c' d).toInt) 0 6) 0 6 + v.toInt := by
      rw [addB_n (show c < 2147483648 by omega) (show s < 2147483648 by omega)]
      by_cases q : c = s
      · rw [if_pos q]; omega
      · rw [if_neg q]
        have bb := h.bl hcs6.1 hcs6.2
        have e := sI_upd (f := fun c' => sI (fun d => (aG σ 32 c' d).toInt) 0 6) (g := fun c' => sI (fun d => (up2 (aG σ 32) c s (aG σ 32 c s + v) c' d).toInt) 0 6) (j := c) 6 0 (Nat.zero_le _) (by omega) (fun c' hc' => sI_congr _ _ (fun d _ _ => by rw [show up2 (aG σ 32) c s (aG σ 32 c s + v) c' d = aG σ 32 c' d from if_neg (fun z => hc' z.1)]))
        have e2 := sI_upd (f := fun d => (aG σ 32 c d).toInt) (g := fun d => (up2 (aG σ 32) c s (aG σ 32 c s + v) c d).toInt) (j := s) 6 0 (Nat.zero_le _) (by omega) (fun d hd => by rw [show up2 (aG σ 32) c s (aG σ 32 c s + v) c d = aG σ 32 c d from if_neg (fun z => hd z.2)])
        have e3 : (up2 (aG σ 32) c s (aG σ 32 c s + v) c s).toInt = (aG σ 32 c s).toInt + v.toInt := by
          rw [show up2 (aG σ 32) c s (aG σ 32 c s + v) c s = aG σ 32 c s + v from if_pos ⟨rfl, rfl⟩, w_add (by omega) (by omega)]
        rw [e, e2, e3]
        omega
    have k4' : sI (fun c => sI (fun d => (aG σ 32 c d).toInt) 0 6) 0 6 ≤ sI (fun t => sI (fun k => (aG σ 31 t k).toInt) 0 (fl t)) 0 (W 9) := k4
    show sI (fun c' => sI (fun d => (addB (nI c) (nI s) v (aG σ 32) c' d).toInt) 0 6) 0 6 ≤ sI (fun t' => sI (fun k => (up2 (aG σ 31) t (fl t) v t' k).toInt) 0 (upF fl t (fl t + 1) t')) 0 (W 9)
    rw [f1]
    omega

/-! prorating as it is asked for: how, the proviso left aside, the carriers, so many flown with their shares -/
theorem onR_congr {car car' : Nat → Int32} {c : Int32} {k n : Nat} (h : ∀ i, i < n → car i = car' i) : ∀ (d i : Nat), i + d ≤ n → onR car c k d i = onR car' c k d i
  | 0, _, _ => rfl
  | d + 1, i, hi => by
    unfold onR
    rw [h i (by omega), onR_congr h d (i + 1) (by omega)]
theorem chS_congr {pro : Nat → Nat → Int32} {car car' st : Nat → Int32} {n k p : Nat} (h : ∀ i, i < n → car i = car' i) (hk : k < n) : chS pro car st n k p = chS pro car' st n k p := by
  unfold chS
  rw [h k hk, onR_congr h n 0 (by omega)]
theorem phR_congr {pro : Nat → Nat → Int32} {car car' st : Nat → Int32} {n k : Nat} {sk : Int32} (h : ∀ i, i < n → car i = car' i) (hk : k < n) : ∀ (d i : Nat), phR pro car st n k sk d i = phR pro car' st n k sk d i
  | 0, _ => rfl
  | d + 1, i => by
    unfold phR
    rw [chS_congr h hk, phR_congr h hk d (i + 1)]
def phC (σ : Sg) (b : Nat) (W : Nat → Nat) (n t : Nat) (sk : Int32) (car : Nat → Int32) (k : Nat) : Int32 := phR (aG σ (b + 7)) car (aG σ (b + 10) t) n k sk (W 5) 0
def kdC (σ : Sg) (b : Nat) (W : Nat → Nat) (n t : Nat) (sk : Int32) (car : Nat → Int32) (k : Nat) : Int32 := kdP (aG σ (b + 7)) (phC σ b W n t sk car k)
def vlC (σ : Sg) (b : Nat) (W : Nat → Nat) (n t : Nat) (sk : Int32) (car : Nat → Int32) (k : Nat) : Int := vlP (aG σ (b + 9) t 0) (aG σ (b + 7)) (phC σ b W n t sk car k)
def fcC (σ : Sg) (b : Nat) (W : Nat → Nat) (t : Nat) (how : Int32) (car : Nat → Int32) (k : Nat) : Int := fcP (aG σ (b + 5)) (aG σ (b + 6)) (aG σ (b + 8)) how (gI σ b 7) car (aG σ (b + 10) t) (W 4) (W 6) k
def PC (σ : Sg) (b t f : Nat) (sh : Nat → Int32) : Int := (aG σ (b + 9) t 0).toInt - sI (fun k => (sh k).toInt) 0 f
def RC (σ : Sg) (b : Nat) (W : Nat → Nat) (n t : Nat) (how sk : Int32) (car : Nat → Int32) (f : Nat) (sh : Nat → Int32) : RT := prF (kdC σ b W n t sk car) (vlC σ b W n t sk car) (fcC σ b W t how car) f n (PC σ b t f sh)
def LFC (σ : Sg) (b : Nat) (W : Nat → Nat) (n t : Nat) (how sk : Int32) (car : Nat → Int32) (f : Nat) (sh : Nat → Int32) : Int := lfF (RC σ b W n t how sk car f sh) f n (PC σ b t f sh)
def BYC (σ : Sg) (b : Nat) (W : Nat → Nat) (n t : Nat) (how sk : Int32) (car : Nat → Int32) (f : Nat) (sh : Nat → Int32) (k : Nat) : Int32 := if k < f then 5 else (RC σ b W n t how sk car f sh).1 k
def shF (r : RT) (f n : Nat) (L : Int) (k : Nat) : Int := r.2.1 k + r.2.2.1 k / r.2.2.2.1 + if (rk (fun k => r.2.2.1 k % r.2.2.2.1) f n k : Int) < L then 1 else 0
def SHC (σ : Sg) (b : Nat) (W : Nat → Nat) (n t : Nat) (how sk : Int32) (car : Nat → Int32) (f : Nat) (sh : Nat → Int32) (k : Nat) : Int := if k < f then (sh k).toInt else shF (RC σ b W n t how sk car f sh) f n (LFC σ b W n t how sk car f sh) k
/-- so many flown: their shares -/
def CfOK (σ : Sg) (b t n f : Nat) (sh : Nat → Int32) : Prop := f ≤ n ∧ (∀ k, k < f → 0 ≤ (sh k).toInt) ∧ sI (fun k => (sh k).toInt) 0 f ≤ (aG σ (b + 9) t 0).toInt ∧ (f = n → sI (fun k => (sh k).toInt) 0 f = (aG σ (b + 9) t 0).toInt)
theorem wtR_bd {band : Nat → Nat → Int32} {ml : Int32} {nb : Nat} (h : ∀ i, i < nb → 1 ≤ (band i 1).toInt ∧ (band i 1).toInt ≤ 999) : ∀ (d i : Nat), i + d ≤ nb → 1 ≤ (wtR band ml d i).toInt ∧ (wtR band ml d i).toInt ≤ 999
  | 0, _, _ => by unfold wtR; decide
  | d + 1, i, hi => by
    unfold wtR
    split
    · exact wtR_bd h d (i + 1) (by omega)
    · exact h i (by omega)
theorem baR_bd {base : Nat → Nat → Int32} {c x y : Int32} {nb : Nat} (h : ∀ i, i < nb → 1 ≤ (base i 3).toInt ∧ (base i 3).toInt ≤ 999999) : ∀ (d i : Nat), i + d ≤ nb → baR base c x y d i = -1 ∨ (1 ≤ (baR base c x y d i).toInt ∧ (baR base c x y d i).toInt ≤ 999999)
  | 0, _, _ => Or.inl rfl
  | d + 1, i, hi => by
    unfold baR
    split
    · exact Or.inr (h i (by omega))
    · exact baR_bd h d (i + 1) (by omega)
theorem InvB.wt {σ : Sg} {b : Nat} {W tn : Nat → Nat} (h : InvB σ b W tn) (ml : Int32) : 1 ≤ (wtR (aG σ (b + 6)) ml (W 4) 0).toInt ∧ (wtR (aG σ (b + 6)) ml (W 4) 0).toInt ≤ 999 :=
  wtR_bd (fun i hi => (h.r.1 i hi).2.2) (W 4) 0 (by omega)
theorem InvB.ba {σ : Sg} {b : Nat} {W tn : Nat → Nat} (h : InvB σ b W tn) (c x y : Int32) : baR (aG σ (b + 8)) c x y (W 6) 0 = -1 ∨ (1 ≤ (baR (aG σ (b + 8)) c x y (W 6) 0).toInt ∧ (baR (aG σ (b + 8)) c x y (W 6) 0).toInt ≤ 999999) :=
  baR_bd (fun i hi => (h.r.2.2 i hi).2.2.2.2) (W 6) 0 (by omega)
theorem InvB.rate {σ : Sg} {b : Nat} {W tn : Nat → Nat} (h : InvB σ b W tn) : 1 ≤ (gI σ b 7).toInt ∧ (gI σ b 7).toInt ≤ 99 := by
  have h7 := h.w7
  have h9 := h.c.bd.2.2.2.2.2.2.2.1
  rw [h.c.x.2.2.2.2.2.2.2.1, nI_i (by omega)]
  omega
theorem InvB.fc {σ : Sg} {b t k : Nat} {W tn : Nat → Nat} (h : InvB σ b W tn) (ht : t < W 9) (hk : k < tn t) (how : Int32) (car : Nat → Int32) : 1 ≤ fcC σ b W t how car k ∧ fcC σ b W t how car k ≤ 1000000000 := by
  obtain ⟨m1, m2⟩ := ((h.k t ht).2.2.2.2.2.2.2.2.2.1 k hk).2.2
  have w := h.wt (mlP (aG σ (b + 5)) (aG σ (b + 10) t) k)
  have bb := h.ba (car k) (aG σ (b + 10) t k) (aG σ (b + 10) t (k + 1))
  have rr := h.rate
  have q1 := mul_bd (show 0 ≤ (mlP (aG σ (b + 5)) (aG σ (b + 10) t) k).toInt by omega) m2 (show 0 ≤ (wtR (aG σ (b + 6)) (mlP (aG σ (b + 5)) (aG σ (b + 10) t) k) (W 4) 0).toInt by omega) w.2
  have q2 := mul_bd (show 0 ≤ (mlP (aG σ (b + 5)) (aG σ (b + 10) t) k).toInt by omega) m2 (show 0 ≤ (gI σ b 7).toInt by omega) rr.2
  have p1 := Int.mul_pos (show 0 < (mlP (aG σ (b + 5)) (aG σ (b + 10) t) k).toInt by omega) (show 0 < (wtR (aG σ (b + 6)) (mlP (aG σ (b + 5)) (aG σ (b + 10) t) k) (W 4) 0).toInt by omega)
  have p2 := Int.mul_pos (show 0 < (mlP (aG σ (b + 5)) (aG σ (b + 10) t) k).toInt by omega) (show 0 < (gI σ b 7).toInt by omega)
  unfold fcC fcP
  split
  · omega
  · split
    · omega
    · rcases bb with q | q
      · contradiction
      · omega
theorem phC_in {σ : Sg} {b n t k : Nat} {W : Nat → Nat} {sk : Int32} {car : Nat → Int32} : phC σ b W n t sk car k = -1 ∨ ∃ p, phC σ b W n t sk car k = nI p ∧ p < W 5 := by
  unfold phC
  rcases phR_in (pro := aG σ (b + 7)) (car := car) (st := aG σ (b + 10) t) (n := n) (k := k) (sk := sk) (W 5) 0 with q | ⟨p, q, -, q2⟩
  · exact Or.inl q
  · exact Or.inr ⟨p, q, by omega⟩
theorem InvB.vl {σ : Sg} {b n t k : Nat} {W tn : Nat → Nat} (h : InvB σ b W tn) (ht : t < W 9) (sk : Int32) (car : Nat → Int32) :
    (0 ≤ vlC σ b W n t sk car k ∧ vlC σ b W n t sk car k ≤ 9999999) ∧ (kdC σ b W n t sk car k = 3 ∨ kdC σ b W n t sk car k = 4 → 1 ≤ vlC σ b W n t sk car k) := by
  obtain ⟨f1, f2⟩ := (h.k t ht).2.2.2.2.2.2.2.1
  unfold vlC kdC vlP kdP
  rcases phC_in (σ := σ) (b := b) (n := n) (t := t) (k := k) (W := W) (sk := sk) (car := car) with q | ⟨p, q, hp⟩
  · rw [q, if_pos rfl, if_pos rfl]
    exact ⟨by omega, fun z => by rcases z with z | z <;> exact absurd z (by decide)⟩
  · have hp5 := h.c.bd.2.2.2.2.2.1
    have np : ¬ nI p = -1 := nI_neg (by omega)
    obtain ⟨r1, r2, r3⟩ := (h.r.2.1 p hp).2.2.2.2.2.2
    rw [q, if_neg np, if_neg np, nI_clamp (by omega)]
    split
    · rename_i c2
      have r4 := r3 c2
      have q1 := mul_bd (show 0 ≤ (aG σ (b + 9) t 0).toInt by omega) f2 (show 0 ≤ (aG σ (b + 7) p 4).toInt by omega) r4
      have q2 : 0 ≤ (aG σ (b + 9) t 0).toInt * (aG σ (b + 7) p 4).toInt := Int.mul_nonneg (by omega) (by omega)
      refine ⟨⟨Int.ediv_nonneg q2 (by omega), ?_⟩, fun z => ?_⟩
      · have := Int.ediv_le_ediv (c := 100) (by omega) q1.2
        omega
      · rw [c2] at z
        rcases z with z | z <;> exact absurd z (by decide)
    · exact ⟨by omega, fun _ => r1⟩

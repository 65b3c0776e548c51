theorem rk_fl {r : Nat → Int} {fl n : Nat} {un L : Int} (hn : fl ≤ n) (h0 : ∀ k, k < fl → r k = 0) (h1 : ∀ k, fl ≤ k → k < n → 0 ≤ r k ∧ r k < un) (hs : L * un = sI r fl (n - fl)) (hu : 0 < un) :
    (∀ k, fl ≤ k → k < n → ((rk r 0 n k : Int) < L ↔ (rk r fl n k : Int) < L)) ∧ ∀ k, k < fl → ¬ (rk r 0 n k : Int) < L := by
  have hL := lt_pos (r := r) (n - fl) fl (fun k a b => h1 k a (by omega)) hs hu
  have hp0 : cN (fun o => decide (0 < r o)) 0 n = cN (fun o => decide (0 < r o)) fl (n - fl) := cN_shift hn (fun k hk => by rw [h0 k hk]; rfl)
  have hall : ∀ k, 0 ≤ k → k < n → 0 ≤ r k := fun k _ hk => by
    rcases Nat.lt_or_ge k fl with q | q
    · rw [h0 k q]; omega
    · exact (h1 k q hk).1
  have z0 : ∀ k, k < n → r k = 0 → ¬ (rk r 0 n k : Int) < L := fun k hk hz => by
    have := rk_le_pos (fl := 0) hall (by omega) hk hz
    rw [Nat.sub_zero, hp0] at this
    omega
  refine ⟨fun k a b => ?_, fun k hk => z0 k (by omega) (h0 k hk)⟩
  by_cases hz : r k = 0
  · have h2 := z0 k b hz
    have h3 := rk_le_pos (fun k a b => (h1 k a b).1) a b hz
    constructor
    · intro q; exact absurd q h2
    · intro q; omega
  · have hpos := (h1 k a b).1
    have : rk r 0 n k = rk r fl n k := cN_shift (p := fun o => bt r o k) hn (fun o ho => by
      cases hb : bt r o k with
      | false => rfl
      | true =>
        rw [bt_iff, h0 o ho] at hb
        omega)
    rw [this]

/-! THE LAW WORKS: all of it -/
section
variable {σ τ : Sg} {f n fl : Nat} {kd : Nat → Int32} {vl fc : Nat → Int}
theorem fi_sum {g : Nat → Int} (hn : fl ≤ n) : sI (ptS (fiB kd fl) g) 0 n = sI (fun k => if isF kd k then g k else 0) fl (n - fl) := by
  have sp := sI_split (f := ptS (fiB kd fl) g) fl (n - fl) 0
  rw [show fl + (n - fl) = n by omega, Nat.zero_add, sI_zero fl 0 (fun k _ b => by unfold ptS fiB; rw [decide_eq_false (show ¬ fl ≤ k by omega)]; rfl)] at sp
  rw [sp, Int.zero_add]
  refine sI_congr _ _ (fun k a _ => ?_)
  unfold ptS fiB
  rw [decide_eq_true a, Bool.true_and]
theorem isF_0 {k : Nat} : decide (by1 kd k = 0) = !isF kd k := by
  unfold by1
  cases e : isF kd k with
  | false => rw [if_neg (by decide)]; rfl
  | true =>
    rw [if_pos rfl]
    unfold isF at e
    simp only [Bool.or_eq_true, decide_eq_true_eq] at e
    rcases e with q | q <;> rw [q] <;> rfl
theorem isF_34 {k : Nat} {w : Int32} (hw : w = 3 ∨ w = 4) : by1 kd k ≠ w := by
  unfold by1
  cases e : isF kd k with
  | false => rw [if_neg (by decide)]; rcases hw with q | q <;> rw [q] <;> decide
  | true =>
    rw [if_pos rfl]
    unfold isF at e
    simp only [Bool.or_eq_true, decide_eq_true_eq] at e
    rcases e with q | q <;> rw [q] <;> rcases hw with z | z <;> rw [z] <;> decide
theorem ot_op {k : Nat} : otB kd fl k = opB fl (by1 kd) 0 k := by
  unfold otB opB
  rw [isF_0]
theorem ot_0 (hn : fl ≤ n) : cN (otB kd fl) 0 n = 0 ↔ cN (fun k => !isF kd k) fl (n - fl) = 0 := by
  have z0 : ∀ (p : Nat → Bool) (d i : Nat), (∀ k, i ≤ k → k < i + d → p k = false) → cN p i d = 0 := by
    intro p d
    induction d with
    | zero => intro i _; rfl
    | succ d ih =>
      intro i h
      unfold cN
      rw [h i (Nat.le_refl _) (by omega), ih (i + 1) (fun k a b => h k (by omega) (by omega))]
      rfl
  constructor
  · intro z
    refine z0 _ _ _ (fun k a b => ?_)
    have := cN_zero n 0 z k (by omega) (by omega)
    unfold otB at this
    rw [decide_eq_true a, Bool.true_and] at this
    exact this
  · intro z
    refine z0 _ _ _ (fun k _ b => ?_)
    unfold otB
    by_cases q : fl ≤ k
    · rw [cN_zero _ _ z k q (by omega), Bool.and_false]
    · rw [decide_eq_false q, Bool.false_and]
theorem w_works {money : Int64} {P : Int} (hK : WK σ f n fl kd vl fc) (hM : 2000 + gM σ = f + 9) (hn : fl ≤ n) (hB : WB n kd vl fc) (hp : money.toInt = P) (p0 : 0 ≤ P) (p9 : P ≤ 9999999)
    (hby : ∀ k, fl ≤ k → k < n → aI σ (f + 4) k = 0) (hwh : ∀ k, fl ≤ k → k < n → aJ σ (f + 1) k = 0) (hup : ∀ k, fl ≤ k → k < n → aJ σ (f + 2) k = 0) (hd : gJ σ f 4 = 1) (hr0 : gI σ f 5 = 0) :
    Ok (DL_works f money (f + 5) (f + 6) (f + 7) (f + 8) σ) (WQ σ f n fl kd vl fc 22 (prF kd vl fc fl n P)) := by
  obtain ⟨hf, hN, hr, ⟨s1, s2, s3, s4, s5, s6, s7, s8⟩, v1, v2, v3, v4⟩ := id hK
  have h8 := s5.2.2.2
  have hfc : ∀ k, k < n → 0 ≤ fc k ∧ fc k ≤ 1000000000 := fun k hk => by have := (hB k hk).2.1; omega
  have hvl : ∀ k, k < n → 0 ≤ vl k ∧ vl k ≤ 9999999 := fun k hk => (hB k hk).1
  obtain ⟨σ1, hσ1⟩ : ∃ σ1, mkD (mkD σ 3 n n) 3 n n = σ1 := ⟨_, rfl⟩
  have a9 : AR σ1 3 (f + 9) n := by
    rw [← hσ1, ← hM]
    exact (ar_new h8).mk
  have a10 : AR σ1 3 (f + 10) n := by
    have := ar_new (σ := mkD σ 3 n n) (s := 3) h8
    rw [gM_mkD, show 2000 + (gM σ + 1) = f + 10 by omega, hσ1] at this
    exact this
  have K1 : WK σ1 f n fl kd vl fc := by rw [← hσ1]; exact hK.mk.mk
  have x1 : HX (XF f) σ σ1 2 := by
    rw [← hσ1]
    exact (hx_mkD (xf_n (by omega) (by omega)) h8).tr (hx_mkD (xf_n (by rw [gM_mkD]; omega) (by rw [gM_mkD]; omega)) h8)
  have o4 : ∀ k, aI σ1 (f + 4) k = aI σ (f + 4) k := fun k => by rw [← hσ1, aI_mkD, gM_mkD, if_neg (by omega), aI_mkD, if_neg (by omega)]
  have o1 : ∀ k, aJ σ1 (f + 1) k = aJ σ (f + 1) k := fun k => by rw [← hσ1, aJ_mkD, gM_mkD, if_neg (by omega), aJ_mkD, if_neg (by omega)]
  have o2 : ∀ k, aJ σ1 (f + 2) k = aJ σ (f + 2) k := fun k => by rw [← hσ1, aJ_mkD, gM_mkD, if_neg (by omega), aJ_mkD, if_neg (by omega)]
  have od : gJ σ1 f 4 = 1 := by rw [← hσ1, gJ_mkD, gM_mkD, if_neg (by omega), gJ_mkD, if_neg (by omega)]; exact hd
  have orr : gI σ1 f 5 = 0 := by rw [← hσ1, gI_mkD, gM_mkD, if_neg (by omega), gI_mkD, if_neg (by omega)]; exact hr0
  unfold DL_works DL_works_8 DL_works_14
  rw [s5.q (by decide) (by decide), chk_true, show (gS σ (f + 5)).2 = n by rw [s5.1], ckn_n h8, chk_true, show ck51 σ = true from decide_eq_true hN, chk_true, nI_clamp (show n < 2 ^ 31 by omega), wlet_eq, hM, chk_true, show ck51 (mkD σ 3 n n) = true from decide_eq_true hN, chk_true, wlet_eq, gM_mkD, show 2000 + (gM σ + 1) = f + 10 by omega, hσ1]
  refine w_25 K1 a9 a10 hvl (fun τ l12 hF el => ?_) n 0 FU σ1 0 (by omega) (by unfold FU; omega) ⟨Fr.rf, fun k hk => absurd hk (Nat.not_lt_zero _), fun _ _ => rfl⟩ rfl
  obtain ⟨f1, y1, -⟩ := hF
  rw [fi_sum hn] at el
  have el : l12.toInt = fiS kd vl fl n := el
  have K2 : WK τ f n fl kd vl fc := K1.fr f1 (fun _ _ => rfl) (fun k a b => fA_no (by simp; omega))
  have b9 := a9.fr f1
  have b10 := a10.fr f1
  have x2 : HX (XF f) σ τ 2 := x1.tr (hx_fr f1 (fun q hq => absurd hq (List.not_mem_nil)) (fun a ha => by
    have : a = f + 4 ∨ a = f + 9 ∨ a = f + 10 := by simpa using ha
    exact xf_n (by omega) (by omega)))
  have by2 : ∀ k, fl ≤ k → k < n → aI τ (f + 4) k = by1 kd k := fun k a b => by
    rw [(y1 k b).2.2]
    unfold fiB by1
    rw [decide_eq_true a, Bool.true_and]
    cases isF kd k with
    | true => rfl
    | false => rw [if_neg (by decide), if_neg (by decide), o4]; exact hby k a b
  have by0 : ∀ k, k < fl → aI τ (f + 4) k = aI σ (f + 4) k := fun k a => by
    rw [(y1 k (by omega)).2.2]
    unfold fiB
    rw [decide_eq_false (show ¬ fl ≤ k by omega), Bool.false_and, if_neg (by decide), o4]
  have q1 : ∀ k, aJ τ (f + 1) k = aJ σ (f + 1) k := fun k => (f1.aJ (f + 1) (fA_no (by simp)) k).trans (o1 k)
  have q2 : ∀ k, aJ τ (f + 2) k = aJ σ (f + 2) k := fun k => (f1.aJ (f + 2) (fA_no (by simp)) k).trans (o2 k)
  have qd : gJ τ f 4 = 1 := (f1.J f 4 rfl).trans od
  have qr : gI τ f 5 = 0 := (f1.I f 5 rfl).trans orr
  have e9 : ∀ j, j < n → aI τ (f + 9) j = bN (fiB kd fl j) := fun j hj => (y1 j hj).1
  have e10 : ∀ j, j < n → aI τ (f + 10) j = bN (otB kd fl j) := fun j hj => (y1 j hj).2.1
  obtain ⟨g0, gN2, gr, ⟨t1, t2, t3, t4, t5, t6, t7, t8⟩, u1, u2, u3, u4⟩ := id K2
  have fin : ∀ {r : RT} {j : Nat} {υ : Sg} {u : Unit}, j ≤ 20 → WQ τ f n fl kd vl fc j r u υ → WQ σ f n fl kd vl fc 22 r u υ := fun hj h => by
    have := h.pre x2 by0
    exact ⟨this.1.wk (fun _ z => z) (by omega), this.2⟩
  have hfi : fiS kd vl fl n = sI (fun k => if isF kd k then vl k else 0) fl (n - fl) := rfl
  unfold DL_works_140 prF
  by_cases c1 : P < fiS kd vl fl n
  · rw [if_neg (show ¬ l12 ≤ money by rw [l_le, el, hp]; omega), if_pos c1, g0.p, chk_true]
    refine ok_bnd (w_parts2 K2 t7 b9 (by omega) e9 u3 (fun j hj => by have := hvl j hj; omega) (by rw [hp]; omega)) (fun _ υ hu => ?_)
    obtain ⟨z1, z2, z3⟩ := hu
    obtain ⟨K3, x3, g4, g1, g5⟩ := wk_parts K2 z1
    refine ok_some.mpr (fin (j := 0) (by omega) ⟨x3, K3, fun k _ => g4 k, fun k a b => ⟨(g4 k).trans (by2 k a b), ?_, ?_⟩, ?_, ?_⟩)
    · rw [g1, q1, hwh k a b]; rfl
    · rw [z3 k b, hp]
      unfold fiB
      rw [decide_eq_true a, Bool.true_and]
    · rw [z2, fi_sum hn]
      exact hfi.symm
    · rw [g5, qr]; rfl
  · rw [if_pos (show l12 ≤ money by rw [l_le, el, hp]; omega), if_neg c1]
    have f0 : 0 ≤ fiS kd vl fl n := sI_nn _ _ (fun k a b => ite_nn (hvl k (by omega)).1)
    have ep : (money - l12).toInt = P - fiS kd vl fl n := by rw [l_sub (by unfold sm; rw [hp, el]; omega), hp, el]
    refine w_169 K2 b9 e9 (fun υ f2 y2 => ?_) n 0 FU τ (by omega) (by unfold FU; omega) Fr.rf (fun k hk => absurd hk (Nat.not_lt_zero _))
    have K3 : WK υ f n fl kd vl fc := K2.fr f2 (fun _ _ => rfl) (fun k a b => fA_no (by simp; omega))
    have d9 := b9.fr f2
    have d10 := b10.fr f2
    have x3 : HX (XF f) τ υ 0 := hx_fr f2 (fun q hq => absurd hq (List.not_mem_nil)) (fun a ha => by
      have : a = f + 1 := by simpa using ha
      exact xf_n (by omega) (by omega))
    have i9 : ∀ j, j < n → aI υ (f + 9) j = bN (fiB kd fl j) := fun j hj => (f2.aI (f + 9) (fA_no (by simp)) j).trans (e9 j hj)
    have i10 : ∀ j, j < n → aI υ (f + 10) j = bN (otB kd fl j) := fun j hj => (f2.aI (f + 10) (fA_no (by simp)) j).trans (e10 j hj)
    have by3 : ∀ k, aI υ (f + 4) k = aI τ (f + 4) k := fun k => f2.aI (f + 4) (fA_no (by simp)) k
    have r3 : gI υ f 5 = 0 := (f2.I f 5 rfl).trans qr
    have d3 : gJ υ f 4 = 1 := (f2.J f 4 rfl).trans qd
    have p3 : ∀ k, aJ υ (f + 2) k = aJ σ (f + 2) k := fun k => (f2.aJ (f + 2) (fA_no (by simp)) k).trans (q2 k)
    have wh3 : ∀ k, fl ≤ k → k < n → (aJ υ (f + 1) k).toInt = if isF kd k then vl k else 0 := fun k a b => by
      rw [y2 k b]
      unfold ptS fiB
      rw [decide_eq_true a, Bool.true_and]
    have cl1 := cN_le (p := otB kd fl) n 0
    have cl2 := cN_le (p := fiB kd fl) n 0
    unfold DL_works_206
    rw [n_many d10 i10, bnd_some]
    by_cases c2 : cN (fun k => !isF kd k) fl (n - fl) = 0
    · rw [if_pos (by rw [(ot_0 hn).mpr c2]; rfl), if_pos c2, n_many d9 i9, bnd_some]
      have hall : ∀ k, fl ≤ k → k < n → isF kd k = true := fun k a b => by
        have := cN_zero _ _ c2 k a (by omega)
        simpa using this
      unfold DL_works_232
      by_cases c3 : fl = n
      · have c4 : cN (fiB kd fl) 0 n = 0 := by
          rcases Nat.eq_zero_or_pos (cN (fiB kd fl) 0 n) with q | q
          · exact q
          · have : cN (fiB kd fl) 0 n ≤ cN (fun _ => false) 0 n := cN_mono n 0 (fun k _ b c => by
              unfold fiB at c
              simp only [Bool.and_eq_true, decide_eq_true_eq] at c
              omega)
            have e0 := (gv_zero (r := fun _ => 0) (fl := 0) (n := n)).1
            rw [Nat.sub_zero] at e0
            omega
        rw [if_pos (by rw [c4]; decide)]
        refine ok_some.mpr (fin (j := 0) (by omega) ⟨x3, K3, fun k _ => by3 k, fun k a b => by omega, ?_, ?_⟩)
        · show (gJ υ f 4).toInt = if fl = n then 1 else sI fc fl (n - fl)
          rw [if_pos c3, d3]
          decide
        · rw [r3]; rfl
      · have c4 : 0 < cN (fiB kd fl) 0 n := cN_pos ⟨fl, by omega, by omega, by unfold fiB; rw [decide_eq_true (Nat.le_refl fl), hall fl (Nat.le_refl _) (by omega)]; rfl⟩
        rw [if_neg (fun z => by have := (nI_leI (b := 0) (by omega) (by decide)).mp z; omega), K3.1.p, chk_true]
        obtain ⟨_, _, _, ⟨_, _, _, _, _, t6', _, _⟩, _, u2', _, _⟩ := id K3
        refine ok_bnd (w_parts2 K3 t6' d9 (by omega) i9 u2' hfc (by rw [ep]; omega)) (fun _ ω hu => ?_)
        obtain ⟨z1, z2, z3⟩ := hu
        obtain ⟨K4, x4, g4, g1, g5⟩ := wk_parts K3 z1
        refine ok_some.mpr (fin (j := 0) (by omega) ⟨x3.tr x4, K4, fun k _ => (g4 k).trans (by3 k), fun k a b => ⟨(g4 k).trans ((by3 k).trans (by2 k a b)), by rw [g1]; exact wh3 k a b, ?_⟩, ?_, ?_⟩)
        · rw [z3 k b, ep]
          unfold fiB
          rw [decide_eq_true a, Bool.true_and]
        · show (gJ ω f 4).toInt = if fl = n then 1 else sI fc fl (n - fl)
          rw [if_neg c3, z2, fi_sum hn]
          exact sI_congr _ _ (fun k a b => by rw [hall k a (by omega)]; rfl)
        · rw [g5, r3]; rfl
    · rw [if_neg (by rw [z_nI (by omega)]; exact fun z => c2 ((ot_0 hn).mp z)), if_neg c2]
      have ho : ∃ k, fl ≤ k ∧ k < n ∧ by1 kd k = 0 := by
        apply Classical.byContradiction
        intro z
        refine c2 ?_
        have : cN (fun k => !isF kd k) fl (n - fl) = cN (fun _ => false) fl (n - fl) := cN_congr _ _ (fun k a b => by
          cases hk : isF kd k with
          | true => rfl
          | false => exact absurd ⟨k, a, by omega, by unfold by1; rw [hk]; rfl⟩ z)
        rw [this]
        exact (gv_zero (r := fun _ => 0)).1
      have cl3 := cN_le (p := opB fl (by1 kd) 0) n 0
      obtain ⟨m9, hm9⟩ : ∃ m9, FU = m9 + 3 := ⟨4093, rfl⟩
      rw [hm9, DL_works_236, if_neg (by decide), ckn_n h8, chk_true, show ck51 υ = true from decide_eq_true K3.2.1, chk_true, nI_clamp (show n < 2 ^ 31 by omega), wlet_eq]
      have hM3 := d10.2.2.1
      obtain ⟨hf3, -, -, ⟨w1, w2, w3, w4, w5, w6, w7, w8⟩, -⟩ := id K3
      have x4 : HX (XF f) υ (mkD υ 3 n n) 1 := hx_mkD (xf_n (by omega) (by omega)) h8
      have LS3 : LsT (mkD υ 3 n n) f n fl kd vl fc (by1 kd) (fun k => if isF kd k then vl k else 0) (P - fiS kd vl fl n) 0 (2000 + gM υ) 3 (money - l12) := by
        refine ⟨K3.mk, d10.mk, ⟨ar_new h8, by omega⟩, fun k hk => ⟨?_, ?_⟩, fun k a b => ⟨?_, ?_⟩, ?_, ep, by omega, by omega⟩
        · rw [aI_mkD, if_neg (by omega), i10 k hk, ot_op]
        · rw [aI_mkD, if_pos rfl]
          unfold opB
          rw [decide_eq_false (isF_34 (Or.inl rfl)), Bool.and_false]
          rfl
        · rw [aI_mkD, if_neg (by omega), by3]; exact by2 k a b
        · rw [aJ_mkD, if_neg (by omega)]; exact wh3 k a b
        · rw [gI_mkD, if_neg (by omega), r3]; rfl
      unfold DL_works_246
      refine (w_least (m2 := m9) hn hB 8 FU 0 (mkD υ 3 n n) _ _ _ (money - l12) (2000 + gM υ) (by omega) (by unfold FU; omega) ho (fun k _ _ => isF_34 (Or.inr rfl)) LS3).mono (fun _ ω hq => ?_)
      refine fin (j := 0 + (1 + 18)) (by omega) ((hq.pre x4 (fun k _ => ?_)).pre x3 (fun k _ => by3 k))
      rw [aI_mkD, if_neg (by omega)]
end

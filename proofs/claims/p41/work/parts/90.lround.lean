/-! THE LAW WORKS: a round -/
def opB (fl : Nat) (bv : Nat → Int32) (g : Int32) (k : Nat) : Bool := decide (fl ≤ k) && decide (bv k = g)
def WB (n : Nat) (kd : Nat → Int32) (vl fc : Nat → Int) : Prop := ∀ k, k < n → (0 ≤ vl k ∧ vl k ≤ 9999999) ∧ (1 ≤ fc k ∧ fc k ≤ 1000000000) ∧ (kd k = 3 ∨ kd k = 4 → 1 ≤ vl k)
/-- what stands while a sort is worked through -/
def LsT (σ : Sg) (f n fl : Nat) (kd : Nat → Int32) (vl fc : Nat → Int) (bv : Nat → Int32) (wh : Nat → Int) (pool : Int) (rn mi : Nat) (w : Int32) (l10 : Int64) : Prop :=
  WK σ f n fl kd vl fc ∧ AR σ 3 (f + 10) n ∧ (AR σ 3 mi n ∧ f + 11 ≤ mi) ∧ (∀ k, k < n → aI σ (f + 10) k = bN (opB fl bv 0 k) ∧ aI σ mi k = bN (opB fl bv w k)) ∧ (∀ k, fl ≤ k → k < n → aI σ (f + 4) k = bv k ∧ (aJ σ (f + 1) k).toInt = wh k) ∧ gI σ f 5 = nI rn ∧ l10.toInt = pool ∧ 0 ≤ pool ∧ pool ≤ 9999999
/-- what it ends in -/
def WE (σ : Sg) (f n fl : Nat) (r : RT) : Prop := (∀ k, fl ≤ k → k < n → aI σ (f + 4) k = r.1 k ∧ (aJ σ (f + 1) k).toInt = r.2.1 k ∧ (aJ σ (f + 2) k).toInt = r.2.2.1 k) ∧ (gJ σ f 4).toInt = r.2.2.2.1 ∧ gI σ f 5 = nI r.2.2.2.2
def WQ (σ : Sg) (f n fl : Nat) (kd : Nat → Int32) (vl fc : Nat → Int) (j : Nat) (r : RT) (_u : Unit) (τ : Sg) : Prop := HX (XF f) σ τ j ∧ WK τ f n fl kd vl fc ∧ (∀ k, k < fl → aI τ (f + 4) k = aI σ (f + 4) k) ∧ WE τ f n fl r
section
variable {σ τ υ : Sg} {f n fl : Nat} {kd bv : Nat → Int32} {vl fc wh : Nat → Int} {pool : Int} {w : Int32}
theorem WQ.pre {j i : Nat} {r : RT} {u : Unit} (h : WQ τ f n fl kd vl fc j r u υ) (h1 : HX (XF f) σ τ i) (h2 : ∀ k, k < fl → aI τ (f + 4) k = aI σ (f + 4) k) : WQ σ f n fl kd vl fc (i + j) r u υ :=
  ⟨h1.tr h.1, h.2.1, fun k hk => (h.2.2.1 k hk).trans (h2 k hk), h.2.2.2⟩
theorem ptS_FG {g : Int32} (hn : fl ≤ n) : sI (ptS (opB fl bv g) fc) 0 n = FG fc bv g fl n := by
  have sp := sI_split (f := ptS (opB fl bv g) fc) fl (n - fl) 0
  rw [show fl + (n - fl) = n by omega, Nat.zero_add, sI_zero fl 0 (fun k _ b => by unfold ptS opB; rw [decide_eq_false (show ¬ fl ≤ k by omega)]; rfl)] at sp
  rw [sp, Int.zero_add]
  unfold FG
  refine sI_congr _ _ (fun k a _ => ?_)
  unfold ptS opB opG
  rw [decide_eq_true a, Bool.true_and]
  by_cases q : bv k = g
  · rw [decide_eq_true q, if_pos rfl, if_pos q]
  · rw [decide_eq_false q, if_neg (by decide), if_neg q]
theorem byN_bey {F : Int} {k : Nat} : byN kd vl fc (opB fl bv 0) w pool F k = (decide (fl ≤ k) && beyB kd vl fc w bv pool F k) := by
  unfold byN opB beyB
  rw [Bool.and_assoc, Bool.and_assoc]
theorem bS_sum (hn : fl ≤ n) : sI (ptS (byN kd vl fc (opB fl bv 0) w pool (FS fc bv fl n)) vl) 0 n = bS kd vl fc w bv pool fl n := by
  have sp := sI_split (f := ptS (byN kd vl fc (opB fl bv 0) w pool (FS fc bv fl n)) vl) fl (n - fl) 0
  rw [show fl + (n - fl) = n by omega, Nat.zero_add, sI_zero fl 0 (fun k _ b => by unfold ptS; rw [byN_bey, decide_eq_false (show ¬ fl ≤ k by omega)]; rfl)] at sp
  rw [sp, Int.zero_add]
  unfold bS
  refine sI_congr _ _ (fun k a _ => ?_)
  unfold ptS
  rw [byN_bey, decide_eq_true a, Bool.true_and]
theorem opB_up {B : Nat → Bool} {g : Int32} (hg : g ≠ w) {k : Nat} : opB fl (upB B w bv) g k = if decide (fl ≤ k) && B k then false else opB fl bv g k := by
  unfold opB upB
  by_cases q : fl ≤ k
  · rw [decide_eq_true q, Bool.true_and, Bool.true_and, Bool.true_and]
    cases e : B k with
    | true => rw [if_pos rfl, if_pos rfl, decide_eq_false (Ne.symm hg)]
    | false => rw [if_neg (by decide), if_neg (by decide)]
  · rw [decide_eq_false q, Bool.false_and, Bool.false_and, Bool.false_and, if_neg (by decide)]
theorem opB_upw {B : Nat → Bool} {k : Nat} : opB fl (upB B w bv) w k = if decide (fl ≤ k) && B k then true else opB fl bv w k := by
  unfold opB upB
  by_cases q : fl ≤ k
  · rw [decide_eq_true q, Bool.true_and, Bool.true_and, Bool.true_and]
    cases e : B k with
    | true => rw [if_pos rfl, if_pos rfl, decide_eq_true rfl]
    | false => rw [if_neg (by decide), if_neg (by decide)]
  · rw [decide_eq_false q, Bool.false_and, Bool.false_and, Bool.false_and, if_neg (by decide)]
theorem xf_n {a : Nat} (h1 : f ≤ a) (h2 : a ≠ f + 3) : ¬ XF f a := fun z => by
  unfold XF at z
  omega
theorem bN_i {c : Prop} [Decidable c] {a b : Bool} : (if c then bN a else bN b) = bN (if c then a else b) := by split <;> rfl
theorem w_round {K236 : Nat → Nat → Nat → Nat → Int32 → Nat → Int64 → Int32 → Sg → Option (Unit × Sg)} {Q : Unit → Sg → Prop} {l10 : Int64} {mi rn m : Nat} (hw : w = 3 ∨ w = 4) (hn : fl ≤ n) (hB : WB n kd vl fc) (h : LsT σ f n fl kd vl fc bv wh pool rn mi w l10) (ho : ∃ k, fl ≤ k ∧ k < n ∧ bv k = 0)
    (h0 : bS kd vl fc w bv pool fl n = 0 → ∀ τ, HX (XF f) σ τ 1 → (∀ k, k < fl → aI τ (f + 4) k = aI σ (f + 4) k) → LsT τ f n fl kd vl fc bv wh pool rn mi w l10 → Ok (DL_works_559 K236 f (f + 6) (f + 7) (f + 8) (nI n) (f + 10) l10 w mi τ) Q)
    (h1 : ¬ bS kd vl fc w bv pool fl n = 0 → bS kd vl fc w bv pool fl n ≤ pool → ∀ τ l, HX (XF f) σ τ 1 → (∀ k, k < fl → aI τ (f + 4) k = aI σ (f + 4) k) → LsT τ f n fl kd vl fc (upB (beyB kd vl fc w bv pool (FS fc bv fl n)) w bv) (upW (beyB kd vl fc w bv pool (FS fc bv fl n)) vl wh) (pool - bS kd vl fc w bv pool fl n) (rn + 1) mi w l → Ok (DL_works_248 K236 m f (f + 6) (f + 7) (f + 8) (nI n) (f + 10) l w mi τ) Q)
    (h2 : ¬ bS kd vl fc w bv pool fl n = 0 → w = 3 → pool < bS kd vl fc w bv pool fl n → ∀ τ be, HX (XF f) σ τ 1 → (∀ k, k < fl → aI τ (f + 4) k = aI σ (f + 4) k) → WK τ f n fl kd vl fc → AR τ 3 be n → f + 11 ≤ be → (∀ k, k < n → aI τ be k = bN (byN kd vl fc (opB fl bv 0) w pool (FS fc bv fl n) k)) → (∀ k, fl ≤ k → k < n → aI τ (f + 4) k = upB (beyB kd vl fc w bv pool (FS fc bv fl n)) w bv k ∧ (aJ τ (f + 1) k).toInt = wh k) → gI τ f 5 = nI (rn + 1) → Ok (DL_works_487 f (f + 7) l10 be τ) Q) :
    Ok (DL_works_248 K236 (m + 1) f (f + 6) (f + 7) (f + 8) (nI n) (f + 10) l10 w mi σ) Q := by
  obtain ⟨hK, a10, ⟨am, hmi⟩, hO, hV, hR, hp, p0, p9⟩ := h
  obtain ⟨hf, hN, hr, ⟨s1, s2, s3, s4, s5, s6, s7, s8⟩, v1, v2, v3, v4⟩ := id hK
  have h8 := a10.2.2.2
  have hm3 := am.2.2.1
  have hM8 := s8.2.2.1
  have hfc : ∀ k, k < n → 0 ≤ fc k ∧ fc k ≤ 1000000000 := fun k hk => by have := (hB k hk).2.1; omega
  have hvl : ∀ k, k < n → 0 ≤ vl k ∧ vl k ≤ 9999999 := fun k hk => (hB k hk).1
  have ho1 : 0 < cN (opB fl bv 0) 0 n := cN_pos (by
    obtain ⟨k, k1, k2, k3⟩ := ho
    exact ⟨k, by omega, by omega, by unfold opB; rw [decide_eq_true k1, decide_eq_true k3]; rfl⟩)
  have hcl := cN_le (p := opB fl bv 0) n 0
  rw [DL_works_248, n_many a10 (fun j hj => (hO j hj).1), bnd_some, if_neg (fun z => by have := (nI_leI (b := 0) (by omega) (by decide)).mp z; omega)]
  refine w_262 hK a10 (fun j hj => (hO j hj).1) hfc (fun l16 e16 => ?_) n 0 FU 0 (by omega) (by unfold FU; omega) rfl
  have sb := sI_b2 (g := ptS (opB fl bv 0) fc) (B := 1000000000) (by omega) n 0 (fun k _ b => by
    have := hfc k (by omega)
    unfold ptS
    split <;> omega)
  rw [ptS_FG hn, FG_0] at e16 sb
  obtain ⟨F, hF⟩ : ∃ F, FS fc bv fl n = F := ⟨_, rfl⟩
  rw [hF] at e16 sb
  obtain ⟨be, hbe⟩ : ∃ be, be = 2000 + gM σ := ⟨_, rfl⟩
  have ab : AR (mkD σ 3 n n) 3 be n := by rw [hbe]; exact ar_new h8
  have hbX : ¬ XF f (2000 + gM σ) := xf_n (by omega) (by omega)
  unfold DL_works_297 DL_works_301
  rw [ckn_n h8, chk_true, show ck51 σ = true from decide_eq_true hN, chk_true, nI_clamp (show n < 2 ^ 31 by omega), wlet_eq, ← hbe]
  have oM : ∀ k, aI (mkD σ 3 n n) (f + 10) k = aI σ (f + 10) k := fun k => by rw [aI_mkD, if_neg (by have := a10.2.2.1; omega)]
  have mM : ∀ k, aI (mkD σ 3 n n) mi k = aI σ mi k := fun k => by rw [aI_mkD, if_neg (by omega)]
  have b4M : ∀ k, aI (mkD σ 3 n n) (f + 4) k = aI σ (f + 4) k := fun k => by rw [aI_mkD, if_neg (by omega)]
  have whM : ∀ k, aJ (mkD σ 3 n n) (f + 1) k = aJ σ (f + 1) k := fun k => by rw [aJ_mkD, if_neg (by omega)]
  have rM : gI (mkD σ 3 n n) f 5 = gI σ f 5 := by rw [gI_mkD, if_neg (by omega)]
  refine w_309 hK.mk a10.mk ab (by omega) (o := opB fl bv 0) (fun j hj => (oM j).trans (hO j hj).1) hfc hvl hp ⟨p0, p9⟩ e16 (by omega) (fun τ1 l19 f1 y1 e19 => ?_) n 0 FU (mkD σ 3 n n) 0 (by omega) (by unfold FU; omega) Fr.rf (fun k hk => absurd hk (Nat.not_lt_zero _)) rfl
  rw [← hF] at y1 e19
  rw [← hF] at e16
  rw [bS_sum hn] at e19
  have ab1 := ab.fr f1
  have x1 : HX (XF f) σ τ1 1 := (hx_mkD hbX h8).tr (hx_fr f1 (fun q hq => absurd hq (List.not_mem_nil)) (fun a ha => by
    have : a = be := by simpa using ha
    rw [this, hbe]
    exact hbX))
  have g4 : ∀ k, aI τ1 (f + 4) k = aI σ (f + 4) k := fun k => (f1.aI (f + 4) (fA_no (by simp; omega)) k).trans (b4M k)
  have g1 : ∀ k, aJ τ1 (f + 1) k = aJ σ (f + 1) k := fun k => (f1.aJ (f + 1) (fA_no (by simp; omega)) k).trans (whM k)
  have g10 : ∀ k, aI τ1 (f + 10) k = aI σ (f + 10) k := fun k => (f1.aI (f + 10) (fA_no (by simp; omega)) k).trans (oM k)
  have gm : ∀ k, aI τ1 mi k = aI σ mi k := fun k => (f1.aI mi (fA_no (by simp; omega)) k).trans (mM k)
  have g5 : gI τ1 f 5 = nI rn := (f1.I f 5 rfl).trans (rM.trans hR)
  have K1 : WK τ1 f n fl kd vl fc := hK.mk.fr f1 (fun _ _ => rfl) (fun k a b => fA_no (by simp; omega))
  have hz : bS kd vl fc w bv pool fl n = 0 ↔ cN (byN kd vl fc (opB fl bv 0) w pool (FS fc bv fl n)) 0 n = 0 := by
    constructor
    · intro z
      have hz := bS_zero (fun k a b => (hvl k b).1) (fun k a b c => (hB k b).2.2 (by rw [c]; exact hw)) z
      rcases Nat.eq_zero_or_pos (cN (byN kd vl fc (opB fl bv 0) w pool (FS fc bv fl n)) 0 n) with q | q
      · exact q
      · have : cN (byN kd vl fc (opB fl bv 0) w pool (FS fc bv fl n)) 0 n ≤ cN (fun _ => false) 0 n := cN_mono n 0 (fun k _ b c => by
          rw [byN_bey] at c
          simp only [Bool.and_eq_true, decide_eq_true_eq] at c
          have := hz k c.1 (by omega)
          unfold BB at this
          rw [this] at c
          exact c.2)
        have e0 := (gv_zero (r := fun _ => 0) (fl := 0) (n := n)).1
        rw [Nat.sub_zero] at e0
        omega
    · intro z
      rw [← bS_sum hn]
      exact sI_zero n 0 (fun k a b => by unfold ptS; rw [cN_zero n 0 z k a b]; rfl)
  have hcb := cN_le (p := byN kd vl fc (opB fl bv 0) w pool (FS fc bv fl n)) n 0
  unfold DL_works_419
  rw [n_many ab1 y1, bnd_some]
  by_cases c : bS kd vl fc w bv pool fl n = 0
  · rw [if_pos (by rw [hz.mp c]; rfl)]
    unfold DL_works_427
    exact h0 c τ1 x1 (fun k _ => g4 k) ⟨K1, a10.mk.fr f1, ⟨am.mk.fr f1, hmi⟩, fun k hk => by rw [g10, gm]; exact hO k hk, fun k a b => by rw [g4, g1]; exact hV k a b, g5, hp, p0, p9⟩
  · have F1 := K1.1
    have nR : nI rn + (1 : Int32) = nI (rn + 1) := nI_add _ _
    obtain ⟨τ2, hτ2⟩ : ∃ τ2, pI τ1 f 5 (nI (rn + 1)) = τ2 := ⟨_, rfl⟩
    have f2 : Fr (fF [(f, 5)]) (fA []) τ1 τ2 := by rw [← hτ2]; exact Fr.rf.pI f 5 _ (fF_in (by simp))
    have K2 : WK τ2 f n fl kd vl fc := K1.fr f2 (fun k hk => fF_no (by simp; omega)) (fun k _ _ => rfl)
    have ab2 := ab1.fr f2
    have g5' : gI τ2 f 5 = nI (rn + 1) := by rw [← hτ2, gI_pI, if_pos ⟨rfl, rfl⟩]
    rw [if_neg (by rw [z_nI (by omega)]; exact fun z => c (hz.mpr z)), F1.p, chk_true, F1.h, chk_true, wlet_eq, g5, nR, hτ2]
    refine w_443 K2 ab2 (by omega) (y := byN kd vl fc (opB fl bv 0) w pool (FS fc bv fl n)) (fun k hk => (f2.aI be rfl k).trans (y1 k hk)) (fun τ3 f3 y3 => ?_) n 0 FU τ2 (by omega) (by unfold FU; omega) Fr.rf (fun k hk => absurd hk (Nat.not_lt_zero _)) (fun _ _ => rfl)
    have K3 : WK τ3 f n fl kd vl fc := K2.fr f3 (fun _ _ => rfl) (fun k a b => fA_no (by simp; omega))
    have ab3 := ab2.fr f3
    have am3 := ((am.mk.fr f1).fr f2).fr f3
    have a103 := ((a10.mk.fr f1).fr f2).fr f3
    have yb3 : ∀ k, k < n → aI τ3 be k = bN (byN kd vl fc (opB fl bv 0) w pool (FS fc bv fl n) k) := fun k hk => (f3.aI be (fA_no (by simp; omega)) k).trans ((f2.aI be rfl k).trans (y1 k hk))
    have f23 : Fr (fF [(f, 5)]) (fA [f + 4]) τ1 τ3 := (f2.mono (fun _ _ z => z) (fun _ _ => rfl)).trans (f3.mono (fun _ _ _ => rfl) (fun _ z => z))
    have x3 : HX (XF f) σ τ3 1 := x1.tr (hx_fr f23 (fun q hq => by
      have : q = (f, 5) := by simpa using hq
      rw [this]
      exact xf_n (Nat.le_refl _) (by omega)) (fun a ha => by
      have : a = f + 4 := by simpa using ha
      rw [this]
      exact xf_n (by omega) (by omega)))
    have b3 : ∀ k, k < n → aI τ3 (f + 4) k = if decide (fl ≤ k) && beyB kd vl fc w bv pool (FS fc bv fl n) k then w else aI σ (f + 4) k := fun k hk => by
      rw [y3 k hk, f2.aI (f + 4) rfl k, g4, byN_bey]
    have b3a : ∀ k, k < fl → aI τ3 (f + 4) k = aI σ (f + 4) k := fun k hk => by
      by_cases q : k < n
      · rw [b3 k q, decide_eq_false (show ¬ fl ≤ k by omega)]
        rfl
      · omega
    have b3b : ∀ k, fl ≤ k → k < n → aI τ3 (f + 4) k = upB (beyB kd vl fc w bv pool (FS fc bv fl n)) w bv k := fun k a b => by
      rw [b3 k b, decide_eq_true a, Bool.true_and, (hV k a b).1]
      rfl
    have w3 : ∀ k, aJ τ3 (f + 1) k = aJ σ (f + 1) k := fun k => (f3.aJ (f + 1) (fA_no (by simp)) k).trans ((f2.aJ (f + 1) rfl k).trans (g1 k))
    have r3 : gI τ3 f 5 = nI (rn + 1) := (f3.I f 5 rfl).trans g5'
    have hle : (l19 ≤ l10) ↔ bS kd vl fc w bv pool fl n ≤ pool := by rw [l_le, e19, hp]
    have go : bS kd vl fc w bv pool fl n ≤ pool → Ok (DL_works_498 K236 (DL_works_248 K236 m) f (f + 6) (f + 7) (f + 8) (nI n) (f + 10) l10 w mi be l19 τ3) Q := fun hb => by
      unfold DL_works_498
      refine w_501 K3 a103 am3 ab3 hmi (by omega) yb3 (fun τ4 f4 y4 => ?_) n 0 FU τ3 (by omega) (by unfold FU; omega) Fr.rf (fun k hk => absurd hk (Nat.not_lt_zero _)) (fun _ _ => ⟨rfl, rfl, rfl⟩)
      unfold DL_works_549
      have x4 : HX (XF f) σ τ4 1 := x3.tr (hx_fr f4 (fun q hq => absurd hq (List.not_mem_nil)) (fun a ha => by
        have : a = f + 1 ∨ a = f + 10 ∨ a = mi := by simpa using ha
        exact xf_n (by omega) (by omega)))
      have b4 : ∀ k, aI τ4 (f + 4) k = aI τ3 (f + 4) k := fun k => f4.aI (f + 4) (fA_no (by simp; omega)) k
      have bn := bS_nn (kd := kd) (fc := fc) (w := w) (bv := bv) (pool := pool) (fl := fl) (n := n) (fun k a b => (hvl k b).1)
      have o3 : ∀ k, aI τ3 (f + 10) k = aI σ (f + 10) k := fun k => (f3.aI (f + 10) (fA_no (by simp)) k).trans ((f2.aI (f + 10) rfl k).trans (g10 k))
      have m3 : ∀ k, aI τ3 mi k = aI σ mi k := fun k => (f3.aI mi (fA_no (by simp; omega)) k).trans ((f2.aI mi rfl k).trans (gm k))
      refine h1 c hb τ4 _ x4 (fun k hk => (b4 k).trans (b3a k hk)) ⟨K3.fr f4 (fun _ _ => rfl) (fun k a b => fA_no (by simp; omega)), a103.fr f4, ⟨am3.fr f4, hmi⟩, fun k hk => ?_, fun k a b => ?_, (f4.I f 5 rfl).trans r3, ?_, by omega, by omega⟩
      · obtain ⟨z1, z2, z3⟩ := y4 k hk
        have w0 : (0 : Int32) ≠ w := by rcases hw with q | q <;> rw [q] <;> decide
        rw [z2, z3, o3, m3, (hO k hk).1, (hO k hk).2, byN_bey, opB_up w0, opB_upw]
        cases decide (fl ≤ k) && beyB kd vl fc w bv pool (FS fc bv fl n) k with
        | true => exact ⟨rfl, rfl⟩
        | false => exact ⟨rfl, rfl⟩
      · obtain ⟨z1, z2, z3⟩ := y4 k b
        refine ⟨(b4 k).trans (b3b k a b), ?_⟩
        rw [z1, w3, (hV k a b).2, byN_bey, decide_eq_true a, Bool.true_and]
        rfl
      · rw [l_sub (by unfold sm; rw [hp, e19]; omega), hp, e19]
    unfold DL_works_473
    rcases hw with q | q
    · rw [if_pos q]
      by_cases q2 : l19 ≤ l10
      · rw [if_pos q2]
        exact go (hle.mp q2)
      · rw [if_neg q2]
        exact h2 c q (by have := mt hle.mpr q2; omega) τ3 be x3 b3a K3 ab3 (by omega) yb3 (fun k a b => ⟨b3b k a b, by rw [w3]; exact (hV k a b).2⟩) r3
    · rw [if_neg (by rw [q]; decide)]
      refine go ?_
      rw [q]
      exact bS_most p0 (fun k a b => (hvl k b).1) (fun k a b => (hB k b).2.1.1)
end

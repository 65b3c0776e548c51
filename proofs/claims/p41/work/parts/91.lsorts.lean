/-! THE LAW WORKS: parts in the end -/
section
variable {σ τ : Sg} {f n fl : Nat} {kd bv : Nat → Int32} {vl fc wh : Nat → Int} {pool : Int}
theorem w_parts2 {P : Int64} {s : Nat → Bool} {g : Nat → Int} {gA sA : Nat} (hK : WK σ f n fl kd vl fc) (lg : AR σ 4 gA n) (ls : AR σ 3 sA n) (hug : f + 2 ≠ gA) (hs : ∀ j, j < n → aI σ sA j = bN (s j)) (hg : ∀ j, j < n → (aJ σ gA j).toInt = g j) (hgb : ∀ j, j < n → 0 ≤ g j ∧ g j ≤ 1000000000) (hP : 0 ≤ P.toInt ∧ P.toInt ≤ 9999999) :
    Ok (DX8_parts f P gA sA σ) (fun _ τ => Fr (fF [(f, 4)]) (fA [f + 2]) σ τ ∧ (gJ τ f 4).toInt = sI (ptS s g) 0 n ∧ ∀ k, k < n → (aJ τ (f + 2) k).toInt = if s k then P.toInt * g k else 0) := by
  obtain ⟨hf, hN, hr, ⟨s1, s2, s3, s4, s5, s6, s7, s8⟩, v1, v2, v3, v4⟩ := hK
  refine (w_parts (g := fun j => if j < n then g j else 0) hf hr.2.1 s2 lg ls hug hs (fun j hj => by rw [if_pos hj]; exact hg j hj) (fun j => ?_) hP).mono (fun _ υ hu => ⟨hu.1, ?_, fun k hk => ?_⟩)
  · by_cases q : j < n
    · rw [if_pos q]; exact hgb j q
    · rw [if_neg q]; omega
  · rw [hu.2.1]
    refine sI_congr n 0 (fun k _ b => ?_)
    show (if s k then (if k < n then g k else 0) else 0) = if s k then g k else 0
    rw [if_pos (show k < n by omega)]
  · have := hu.2.2 k hk
    rw [if_pos hk] at this
    exact this
theorem wk_parts (h : WK σ f n fl kd vl fc) (hf : Fr (fF [(f, 4)]) (fA [f + 2]) σ τ) : WK τ f n fl kd vl fc ∧ HX (XF f) σ τ 0 ∧ (∀ k, aI τ (f + 4) k = aI σ (f + 4) k) ∧ (∀ k, aJ τ (f + 1) k = aJ σ (f + 1) k) ∧ gI τ f 5 = gI σ f 5 :=
  ⟨h.fr hf (fun k hk => fF_no (by simp; omega)) (fun k a b => fA_no (by simp; omega)), hx_fr hf (fun q hq => by
    have : q = (f, 4) := by simpa using hq
    rw [this]
    exact xf_n (Nat.le_refl _) (by omega)) (fun a ha => by
    have : a = f + 2 := by simpa using ha
    rw [this]
    exact xf_n (by omega) (by omega)), fun k => hf.aI (f + 4) (fA_no (by simp)) k, fun k => hf.aJ (f + 1) (fA_no (by simp)) k, hf.I f 5 (fF_no (by simp))⟩
/-- the last of it: among those that are open, or those that the mosts hold -/
theorem w_559 {l10 : Int64} {mi rn m : Nat} (hn : fl ≤ n) (hB : WB n kd vl fc) (h : LsT σ f n fl kd vl fc bv wh pool rn mi 4 l10) :
    Ok (DL_works_559 (DL_works_236 (m + 1)) f (f + 6) (f + 7) (f + 8) (nI n) (f + 10) l10 4 mi σ) (WQ σ f n fl kd vl fc 0 (if FG fc bv 0 fl n = 0 then (bv, wh, ptA bv 4 pool fc, FG fc bv 4 fl n, rn) else (bv, wh, ptA bv 0 pool fc, FG fc bv 0 fl n, rn))) := by
  obtain ⟨hK, a10, ⟨am, hmi⟩, hO, hV, hR, hp, p0, p9⟩ := h
  obtain ⟨hf, hN, hr, ⟨s1, s2, s3, s4, s5, s6, s7, s8⟩, v1, v2, v3, v4⟩ := id hK
  have h8 := a10.2.2.2
  have hcl := cN_le (p := opB fl bv 0) n 0
  have hz : FG fc bv 0 fl n = 0 ↔ cN (opB fl bv 0) 0 n = 0 := by
    constructor
    · intro z
      rcases Nat.eq_zero_or_pos (cN (opB fl bv 0) 0 n) with q | q
      · exact q
      · have : cN (opB fl bv 0) 0 n ≤ cN (fun _ => false) 0 n := cN_mono n 0 (fun k _ b c => by
          unfold opB at c
          simp only [Bool.and_eq_true, decide_eq_true_eq] at c
          have := FG_pos (fun k a b => (hB k b).2.1.1) c.1 (show k < n by omega) c.2
          omega)
        have e0 := (gv_zero (r := fun _ => 0) (fl := 0) (n := n)).1
        rw [Nat.sub_zero] at e0
        omega
    · intro z
      rw [← ptS_FG hn]
      exact sI_zero n 0 (fun k a b => by unfold ptS; rw [cN_zero n 0 z k a b]; rfl)
  have key : ∀ (g : Int32) (sA : Nat), AR σ 3 sA n → (∀ j, j < n → aI σ sA j = bN (opB fl bv g j)) → Ok (DL_works_585 (DL_works_236 (m + 1)) f (f + 6) (f + 7) (f + 8) (nI n) (f + 10) l10 4 f l10 (f + 6) sA σ) (WQ σ f n fl kd vl fc 0 (bv, wh, ptA bv g pool fc, FG fc bv g fl n, rn)) := fun g sA as hs => by
    unfold DL_works_585
    rw [hf.p, chk_true]
    refine ok_bnd (w_parts2 hK s6 as (by omega) hs v2 (fun j hj => by have := (hB j hj).2.1; omega) (by rw [hp]; omega)) (fun _ υ hu => ?_)
    obtain ⟨u1, u2, u3⟩ := hu
    obtain ⟨K1, x1, g4, g1, g5⟩ := wk_parts hK u1
    unfold DL_works_588
    rw [DL_works_236, if_pos (by decide)]
    unfold DL_works_594
    refine ok_some.mpr ⟨x1, K1, fun k _ => g4 k, fun k a b => ⟨(g4 k).trans (hV k a b).1, by rw [g1]; exact (hV k a b).2, ?_⟩, ?_, g5.trans hR⟩
    · rw [u3 k b, hp]
      show _ = ptA bv g pool fc k
      unfold ptA opB
      rw [decide_eq_true a, Bool.true_and]
      by_cases q : bv k = g
      · rw [decide_eq_true q, if_pos rfl, if_pos q]
      · rw [decide_eq_false q, if_neg (by decide), if_neg q]
    · rw [u2, ptS_FG hn]
  unfold DL_works_559
  rw [if_pos rfl, n_many a10 (fun j hj => (hO j hj).1), bnd_some]
  by_cases q : FG fc bv 0 fl n = 0
  · rw [if_pos (by rw [hz.mp q]; rfl), if_pos q]
    exact key 4 mi am (fun j hj => (hO j hj).2)
  · rw [if_neg (by rw [z_nI (by omega)]; exact fun z => q (hz.mpr z)), if_neg q]
    exact key 0 (f + 10) a10 (fun j hj => (hO j hj).1)
theorem cN_up {w : Int32} (hw : w ≠ 0) (h : ¬ bS kd vl fc w bv pool fl n = 0) : cN (opB fl (upB (beyB kd vl fc w bv pool (FS fc bv fl n)) w bv) 0) 0 n < cN (opB fl bv 0) 0 n := by
  obtain ⟨k0, k1, k2, k3⟩ := bS_ex h
  refine cN_lt n 0 (fun k _ hk c => ?_) ⟨k0, by omega, by omega, ?_, ?_⟩
  · rw [opB_up (Ne.symm hw)] at c
    cases e : decide (fl ≤ k) && beyB kd vl fc w bv pool (FS fc bv fl n) k with
    | true => rw [e, if_pos rfl] at c; exact absurd c (by decide)
    | false => rw [e, if_neg (by decide)] at c; exact c
  · unfold opB
    rw [decide_eq_true k1, decide_eq_true (beyB_open k3).1]
    rfl
  · rw [opB_up (Ne.symm hw), decide_eq_true k1, k3]
    rfl
/-- the mosts -/
theorem w_most (hn : fl ≤ n) (hB : WB n kd vl fc) {m2 : Nat} : ∀ (d m rn : Nat) (τ : Sg) (bv : Nat → Int32) (wh : Nat → Int) (pool : Int) (l10 : Int64) (mi : Nat), cN (opB fl bv 0) 0 n ≤ d → d < m → (∃ k, fl ≤ k ∧ k < n ∧ bv k = 0) → LsT τ f n fl kd vl fc bv wh pool rn mi 4 l10 →
    Ok (DL_works_248 (DL_works_236 (m2 + 1)) m f (f + 6) (f + 7) (f + 8) (nI n) (f + 10) l10 4 mi τ) (WQ τ f n fl kd vl fc d (moF kd vl fc fl n d bv wh pool rn)) := by
  intro d
  induction d with
  | zero =>
    intro m rn τ bv wh pool l10 mi hc hm ho h
    obtain ⟨k, k1, k2, k3⟩ := ho
    have := cN_pos (p := opB fl bv 0) (d := n) (i := 0) ⟨k, by omega, by omega, by unfold opB; rw [decide_eq_true k1, decide_eq_true k3]; rfl⟩
    omega
  | succ d ih =>
    intro m rn τ bv wh pool l10 mi hc hm ho h
    obtain ⟨m, rfl⟩ : ∃ k, m = k + 1 := ⟨m - 1, by omega⟩
    have hFG : ¬ FG fc bv 0 fl n = 0 := by
      obtain ⟨k, k1, k2, k3⟩ := ho
      have := FG_pos (fun k a b => (hB k b).2.1.1) k1 k2 k3
      omega
    refine w_round (Or.inr rfl) hn hB h ho (fun c υ x1 b4 h' => ?_) (fun c hle υ l x1 b4 h' => ?_) (fun _ z => absurd z (by decide))
    · refine (w_559 (m := m2) hn hB h').mono (fun _ ω hq => ?_)
      rw [if_neg hFG] at hq
      have := hq.pre x1 b4
      rw [moF, if_pos c]
      exact ⟨this.1.wk (fun _ z => z) (by omega), this.2⟩
    · have hc2 := cN_up (fl := fl) (n := n) (by decide : (4 : Int32) ≠ 0) c
      rw [moF, if_neg c]
      by_cases q : FG fc (upB (beyB kd vl fc 4 bv pool (FS fc bv fl n)) 4 bv) 0 fl n = 0
      · rw [if_pos q]
        have hz : cN (opB fl (upB (beyB kd vl fc 4 bv pool (FS fc bv fl n)) 4 bv) 0) 0 n = 0 := by
          rcases Nat.eq_zero_or_pos (cN (opB fl (upB (beyB kd vl fc 4 bv pool (FS fc bv fl n)) 4 bv) 0) 0 n) with q2 | q2
          · exact q2
          · have : cN (opB fl (upB (beyB kd vl fc 4 bv pool (FS fc bv fl n)) 4 bv) 0) 0 n ≤ cN (fun _ => false) 0 n := cN_mono n 0 (fun k _ b c => by
              unfold opB at c
              simp only [Bool.and_eq_true, decide_eq_true_eq] at c
              have := FG_pos (fun k a b => (hB k b).2.1.1) c.1 (show k < n by omega) c.2
              omega)
            have e0 := (gv_zero (r := fun _ => 0) (fl := 0) (n := n)).1
            rw [Nat.sub_zero] at e0
            omega
        obtain ⟨m, rfl⟩ : ∃ k, m = k + 1 := ⟨m - 1, by omega⟩
        rw [DL_works_248, n_many h'.2.1 (fun j hj => (h'.2.2.2.1 j hj).1), bnd_some, hz, if_pos (by decide)]
        refine (w_559 (m := m2) hn hB h').mono (fun _ ω hq => ?_)
        rw [if_pos q] at hq
        have := hq.pre x1 b4
        exact ⟨this.1.wk (fun _ z => z) (by omega), this.2⟩
      · rw [if_neg q]
        refine (ih m (rn + 1) υ _ _ _ l mi (by omega) (by omega) (FG_ex q) h').mono (fun _ ω hq => ?_)
        have := hq.pre x1 b4
        exact ⟨this.1.wk (fun _ z => z) (by omega), this.2⟩
theorem ls_mine {rn mi : Nat} {l10 : Int64} (h : LsT σ f n fl kd vl fc bv wh pool rn mi 3 l10) (h4 : ∀ k, fl ≤ k → k < n → bv k ≠ 4) : LsT (mkD σ 3 n n) f n fl kd vl fc bv wh pool rn (2000 + gM σ) 4 l10 ∧ HX (XF f) σ (mkD σ 3 n n) 1 ∧ ∀ k, aI (mkD σ 3 n n) (f + 4) k = aI σ (f + 4) k := by
  obtain ⟨hK, a10, ⟨am, hmi⟩, hO, hV, hR, hp⟩ := h
  obtain ⟨hf, hN, hr, ⟨s1, s2, s3, s4, s5, s6, s7, s8⟩, v1, v2, v3, v4⟩ := id hK
  have hm3 := am.2.2.1
  have h8 := am.2.2.2
  refine ⟨⟨hK.mk, a10.mk, ⟨ar_new h8, by omega⟩, fun k hk => ⟨?_, ?_⟩, fun k a b => ⟨?_, ?_⟩, ?_, hp⟩, hx_mkD (xf_n (by omega) (by omega)) h8, fun k => by rw [aI_mkD, if_neg (by omega)]⟩
  · rw [aI_mkD, if_neg (by omega)]; exact (hO k hk).1
  · rw [aI_mkD, if_pos rfl]
    unfold opB
    by_cases q : fl ≤ k
    · rw [decide_eq_false (h4 k q hk), Bool.and_false]; rfl
    · rw [decide_eq_false q, Bool.false_and]; rfl
  · rw [aI_mkD, if_neg (by omega)]; exact (hV k a b).1
  · rw [aJ_mkD, if_neg (by omega)]; exact (hV k a b).2
  · rw [gI_mkD, if_neg (by omega)]; exact hR
/-- the leasts, and the mosts behind them -/
theorem w_least (hn : fl ≤ n) (hB : WB n kd vl fc) {m2 : Nat} : ∀ (d m rn : Nat) (τ : Sg) (bv : Nat → Int32) (wh : Nat → Int) (pool : Int) (l10 : Int64) (mi : Nat), cN (opB fl bv 0) 0 n ≤ d → d < m → (∃ k, fl ≤ k ∧ k < n ∧ bv k = 0) → (∀ k, fl ≤ k → k < n → bv k ≠ 4) → LsT τ f n fl kd vl fc bv wh pool rn mi 3 l10 →
    Ok (DL_works_248 (DL_works_236 (m2 + 2)) m f (f + 6) (f + 7) (f + 8) (nI n) (f + 10) l10 3 mi τ) (WQ τ f n fl kd vl fc (d + 10) (lsF kd vl fc fl n d bv wh pool rn)) := by
  intro d
  induction d with
  | zero =>
    intro m rn τ bv wh pool l10 mi hc hm ho h4 h
    obtain ⟨k, k1, k2, k3⟩ := ho
    have := cN_pos (p := opB fl bv 0) (d := n) (i := 0) ⟨k, by omega, by omega, by unfold opB; rw [decide_eq_true k1, decide_eq_true k3]; rfl⟩
    omega
  | succ d ih =>
    intro m rn τ bv wh pool l10 mi hc hm ho h4 h
    obtain ⟨m, rfl⟩ : ∃ k, m = k + 1 := ⟨m - 1, by omega⟩
    refine w_round (Or.inl rfl) hn hB h ho (fun c υ x1 b4 h' => ?_) (fun c hle υ l x1 b4 h' => ?_) (fun c _ hlt υ be x1 b4 K1 ab hbe yb hV hR => ?_)
    · have h8 := h'.2.1.2.2.2
      have hcl := cN_le (p := opB fl bv 0) n 0
      obtain ⟨L2, x2, b42⟩ := ls_mine h' h4
      rw [lsF, if_pos c]
      unfold DL_works_559
      rw [if_neg (by decide)]
      unfold DL_works_588
      rw [DL_works_236, if_neg (by decide), ckn_n h8, chk_true, show ck51 υ = true from decide_eq_true h'.1.2.1, chk_true, nI_clamp (show n < 2 ^ 31 by omega), wlet_eq]
      unfold DL_works_246
      refine (w_most (m2 := m2) hn hB 8 FU rn (mkD υ 3 n n) bv wh pool l10 (2000 + gM υ) (by omega) (by unfold FU; omega) ho L2).mono (fun _ ω hq => ?_)
      have := (hq.pre x2 (fun k _ => b42 k)).pre x1 b4
      exact ⟨this.1.wk (fun _ z => z) (by omega), this.2⟩
    · have hc2 := cN_up (fl := fl) (n := n) (by decide : (3 : Int32) ≠ 0) c
      rw [lsF, if_neg c, if_neg (by omega)]
      refine (ih m (rn + 1) υ _ _ _ l mi (by omega) (by omega) (ls_open (fun k a b => (hB k b).2.1.1) ho hle) (fun k a b => ?_) h').mono (fun _ ω hq => ?_)
      · unfold upB
        split
        · decide
        · exact h4 k a b
      · have := hq.pre x1 b4
        exact ⟨this.1.wk (fun _ z => z) (by omega), this.2⟩
    · obtain ⟨-, -, -, -, -, -, hp, p0, p9⟩ := h
      obtain ⟨hf, hN, hr, ⟨s1, s2, s3, s4, s5, s6, s7, s8⟩, v1, v2, v3, v4⟩ := id K1
      rw [lsF, if_neg c, if_pos hlt]
      unfold DL_works_487
      rw [hf.p, chk_true]
      refine ok_bnd (w_parts2 K1 s7 ab (by omega) yb v3 (fun j hj => by have := (hB j hj).1; omega) (by rw [hp]; omega)) (fun _ ω hu => ?_)
      obtain ⟨u1, u2, u3⟩ := hu
      obtain ⟨K2, x2, g4, g1, g5⟩ := wk_parts K1 u1
      refine ok_some.mpr ⟨(x1.tr x2).wk (fun _ z => z) (by omega), K2, fun k hk => (g4 k).trans (b4 k hk), fun k a b => ⟨(g4 k).trans (hV k a b).1, by rw [g1]; exact (hV k a b).2, ?_⟩, ?_, g5.trans hR⟩
      · rw [u3 k b, hp, byN_bey, decide_eq_true a, Bool.true_and]
      · rw [u2, bS_sum hn]
end

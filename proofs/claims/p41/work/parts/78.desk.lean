/-! THE DESK: the law's text told, all its lines taken -/
/-- the class's tables are the law's numbers -/
def Tab (c : Nat → Int32) (σ : Sg) : Prop :=
  (∀ x y, x < nPl c → y < nPl c → aG σ 19 x y = nI (mz c x y)) ∧ gI σ 14 7 = nI (nRt c) ∧ Pb c (nBd c) σ ∧ Pv c (nPr c) σ ∧ Ps c (nB c) σ ∧ Pt c (nTk c) σ
theorem TT.tab {c : Nat → Int32} {σ : Sg} (h : TT c σ) : Tab c σ := by
  obtain ⟨h0, h1, h2, h3, h4, h5, h6, h7, h8⟩ := h
  refine ⟨fun x y hx hy => ?_, h2 7 (by decide), h4, h5, h6, h7⟩
  have e := clo_mz h3.2.1 hx hy
  have b := (mz_b hx hy).1
  refine Int32.toInt_inj.mp ?_
  rw [nI_i (by omega)]
  exact e
theorem TT.jj {c : Nat → Int32} {σ : Sg} (h : TT c σ) (h9 : gI σ 26 9 = 0) : JJ σ 14 (Wf c) (nCo c) (fun _ => 0) 0 := by
  have hT := h.tab
  obtain ⟨t1, t2, t3, t4, t5, t6⟩ := hT
  obtain ⟨h0, h1, h2, h3, h4, h5, h6, h7, h8⟩ := h
  obtain ⟨l1, l2, -⟩ := h8
  have b0 := nPl_b c
  have b1 := nCa_b c
  have b2 := nBd_b c
  have b3 := nPr_b c
  have b4 := nBs_b c
  have b5 := nTk_b c
  have b6 := nRt_b c
  have b7 : nB c ≤ nBs c := Nat.min_le_left _ _
  have b8 := NL_b c
  have b9 : nRl c ≤ 1 := by unfold nRl; split <;> omega
  have bd : Wf c 0 ≤ 1200 ∧ Wf c 1 ≤ 12 ∧ Wf c 2 ≤ 6 ∧ Wf c 3 ≤ 24 ∧ Wf c 4 ≤ 5 ∧ Wf c 5 ≤ 16 ∧ Wf c 6 ≤ 16 ∧ Wf c 7 ≤ 99 ∧ Wf c 9 ≤ 8 := by
    show NL c ≤ 1200 ∧ nPl c ≤ 12 ∧ nCa c ≤ 6 ∧ nPl c - 1 + nRl c ≤ 24 ∧ nBd c ≤ 5 ∧ nPr c ≤ 16 ∧ nB c ≤ 16 ∧ nRt c ≤ 99 ∧ nTk c ≤ 8
    omega
  have hC : InvC σ 14 (Wf c) := ⟨h0, isB14, ⟨h2 0 (by decide), h2 1 (by decide), h2 2 (by decide), h2 3 (by decide), h2 4 (by decide), h2 5 (by decide), h2 6 (by decide), h2 7 (by decide), h2 9 (by decide)⟩, trivial, bd⟩
  have hK : InvK σ 14 (Wf c) (nCo c) := fun t ht => by
    have ht : t < nTk c := ht
    obtain ⟨p1, p2, p3, p4, p5⟩ := t6 t ht
    have bo := nCo_b c t
    have bf := nF_b c t
    have bh := nH_b c t
    refine ⟨trivial, trivial, trivial, p3, trivial, ⟨nCr c t 0, nCr_b c t 0, p4 0 (by omega)⟩, ⟨bo.1, by omega⟩, ?_, ?_, fun k hk => ⟨trivial, trivial, ?_⟩, fun k hk => ⟨nAt c t k, nAt_b c t k, p5 k hk⟩⟩
    · rw [show aG σ (14 + 9) t 0 = _ from p1, nI_i (by omega)]
      omega
    · rw [show aG σ (14 + 9) t 1 = _ from p2]
      rcases (by omega : nH c t = 0 ∨ nH c t = 1) with q | q <;> rw [q]
      · exact Or.inl rfl
      · exact Or.inr rfl
    · have a1 := nAt_b c t k
      have a2 := nAt_b c t (k + 1)
      have m1 := mz_pos a1 a2 (nAt_ne c t k)
      have m2 := (mz_b a1 a2).1
      unfold mlP
      rw [show aG σ (14 + 10) t k = _ from p5 k (by omega), show aG σ (14 + 10) t (k + 1) = _ from p5 (k + 1) (by omega), nI_clamp (by omega), nI_clamp (by omega), show aG σ (14 + 5) (nAt c t k) (nAt c t (k + 1)) = _ from t1 _ _ a1 a2, nI_i (by omega)]
      omega
  have hB : InvB σ 14 (Wf c) (nCo c) := by
    refine ⟨hC, ⟨fun i hi => ?_, fun p hp => ?_, fun i hi => ?_⟩, fun _ x y hx hy => ⟨trivial, h3.2.2 x y hx hy⟩, hK, b6.1⟩
    · have := nWt_b c i
      refine ⟨trivial, trivial, ?_⟩
      rw [show aG σ (14 + 6) i 1 = _ from (t3 i hi).2, nI_i (by omega)]
      omega
    · have bv := pV_b c p
      have bk := pK_b c p
      obtain ⟨v0, v1, v2, v3, v4, v5⟩ := t4 p hp
      refine ⟨trivial, trivial, trivial, trivial, trivial, trivial, ?_, ?_, fun z => ?_⟩
      · rw [show aG σ (14 + 7) p 4 = _ from v4, nI_i (by omega)]; omega
      · rw [show aG σ (14 + 7) p 4 = _ from v4, nI_i (by omega)]; omega
      · rw [show aG σ (14 + 7) p 3 = _ from v3] at z
        have z := (nI_eq (b := 2) (by omega) (by decide)).mp z
        have := bv.2.2 z
        rw [show aG σ (14 + 7) p 4 = _ from v4, nI_i (by omega)]; omega
    · have := bV_b c i
      refine ⟨trivial, trivial, trivial, trivial, ?_⟩
      rw [show aG σ (14 + 8) i 3 = _ from (t5 i hi).2.2.2, nI_i (by omega)]
      omega
  refine ⟨⟨hB, h1, fun t ht => ?_, trivial⟩, h9, l1, fun t ht => ?_⟩
  · have ht : t < nTk c := ht
    obtain ⟨q1, q2, q3, q4⟩ := l2 t (by omega)
    obtain ⟨p1, p2, p3, p4, p5⟩ := t6 t ht
    have bo := nCo_b c t
    have bf := nF_b c t
    refine ⟨q2, q1, trivial, Or.inl q3, ⟨Nat.zero_le _, fun k hk => absurd hk (Nat.not_lt_zero _), ?_, fun z => absurd z (by show ¬ 0 = nCo c t; omega)⟩, fun k hk => ⟨trivial, nCr c t k, nCr_b c t k, ?_⟩, trivial⟩
    · show (0 : Int) ≤ _
      rw [show aG σ (14 + 9) t 0 = _ from p1, nI_i (by omega)]
      omega
    · rw [q4 k (by omega)]
      exact p4 k hk
  · have ht : t < nTk c := ht
    exact (l2 t (by omega)).2.2.1
/-! how many semicolons -/
def c59 : List Nat → Nat
  | [] => 0
  | x :: w => (if x = 59 then 1 else 0) + c59 w
def cT : List (Nat × Nat) → Nat
  | [] => 0
  | x :: w => (if x.1 = 2 then 1 else 0) + cT w
theorem c59_app : ∀ (u w : List Nat), c59 (u ++ w) = c59 u + c59 w
  | [], w => by simp [c59]
  | x :: u, w => by
    show (if x = 59 then 1 else 0) + c59 (u ++ w) = ((if x = 59 then 1 else 0) + c59 u) + c59 w
    rw [c59_app u w]; omega
theorem cT_app : ∀ (u w : List (Nat × Nat)), cT (u ++ w) = cT u + cT w
  | [], w => by simp [cT]
  | x :: u, w => by
    show (if x.1 = 2 then 1 else 0) + cT (u ++ w) = ((if x.1 = 2 then 1 else 0) + cT u) + cT w
    rw [cT_app u w]; omega
theorem c59_0 : ∀ (w : List Nat), (∀ j, j < w.length → w.getD j 0 ≠ 59) → c59 w = 0
  | [], _ => rfl
  | x :: w, h => by
    have h0 := h 0 (by rw [List.length_cons]; omega)
    show (if x = 59 then 1 else 0) + c59 w = 0
    rw [if_neg (show ¬ x = 59 from h0), c59_0 w (fun j hj => h (j + 1) (by rw [List.length_cons]; omega))]
theorem c59_rd : ∀ (L : List Itm), Ch L → c59 (rdL L) = cT (L.map tkI)
  | [], _ => rfl
  | x :: L, h => by
    obtain ⟨g, -, h2⟩ := h
    show c59 (rdI x ++ rdL L) = (if x.2.1 = 2 then 1 else 0) + cT (L.map tkI)
    rw [c59_app, c59_rd L h2]
    congr 1
    unfold rdI
    rw [c59_app]
    have s0 : c59 (if x.1 then [32] else []) = 0 := by cases x.1 <;> rfl
    rw [s0, Nat.zero_add]
    rcases g with ⟨g1, g2⟩ | ⟨g1, -, g3, -⟩ | ⟨g1, -, g3, -⟩
    · rw [g1, g2]; rfl
    · rw [if_neg (by omega)]
      exact c59_0 _ (fun j hj => by have := g3 j hj; omega)
    · rw [if_neg (by omega)]
      exact c59_0 _ (fun j hj => by have := g3 j hj; omega)
theorem cT_fm {f : Nat → List Itm} {b : Nat} : ∀ (d i : Nat), (∀ j, i ≤ j → j < i + d → cT ((f j).map tkI) = b) → cT (fmT f i d) = b * d
  | 0, _, _ => rfl
  | d + 1, i, h => by
    rw [fmT_s, cT_app, h i (by omega) (by omega), cT_fm d (i + 1) (fun j a b => h j (by omega) (by omega)), Nat.mul_succ]
    omega
theorem c59_TX (c : Nat → Int32) : c59 (TX c) = NL c := by
  have hcut := bs_cut (c := c) (nBs c) 0 (by omega)
  rw [Nat.sub_zero] at hcut
  rw [← rdTI, c59_rd _ chTI]
  have e : (TI c).map tkI = (itRt c).map tkI ++ fmT itPl 0 (nPl c) ++ fmT itCa 0 (nCa c) ++ fmT (itLg c) 0 (nPl c - 1) ++ (if nRg c = 0 then [] else itRg c).map tkI ++ fmT (itBd c) 0 (nBd c) ++ fmT (itPr c) 0 (nPr c) ++ fmT (itBs c) 0 (nB c) ++ fmT (itTk c) 0 (nTk c) := by
    rw [← hcut]
    unfold TI fmT
    simp only [List.map_append]
  have a1 := cT_fm (f := itPl) (b := 1) (nPl c) 0 (fun j _ _ => rfl)
  have a2 := cT_fm (f := itCa) (b := 1) (nCa c) 0 (fun j _ _ => rfl)
  have a3 := cT_fm (f := itLg c) (b := 1) (nPl c - 1) 0 (fun j _ _ => rfl)
  have a4 := cT_fm (f := itBd c) (b := 1) (nBd c) 0 (fun j _ _ => rfl)
  have a5 := cT_fm (f := itPr c) (b := 1) (nPr c) 0 (fun j _ _ => by
    have bk := pK_b c j
    have z : ¬ 10 + pK c j = 2 := by omega
    rw [pr_tk]
    unfold tkA tkW
    cases pA c j <;> cases pW c j <;> simp [cT, z])
  have a6 := cT_fm (f := itBs c) (b := 1) (nB c) 0 (fun j _ hj => by
    have hI : bI c j = true := bI_lt.mpr (Nat.lt_of_lt_of_le (show j < nB c by omega) (Nat.min_le_right (nBs c) _))
    rw [show itBs c j = _ from if_pos hI]
    rfl)
  have a7 := cT_fm (f := itTk c) (b := 1) (nTk c) 0 (fun j _ _ => by
    have e0 := cT_fm (f := itCo c j) (b := 0) (nCo c j) 0 (fun _ _ _ => rfl)
    have e1 : cT (fmT (itCo c j) 0 (nCo c j) ++ [(2, 0)]) = 1 := by
      rw [cT_app, e0, Nat.zero_mul]
      rfl
    rw [tk_tk]
    by_cases q : nH c j = 0 <;> simp [cT, e1, q])
  have a8 : cT ((if nRg c = 0 then [] else itRg c).map tkI) = nRl c := by
    unfold nRl
    split <;> rfl
  have a9 : cT ((itRt c).map tkI) = 1 := rfl
  rw [e]
  simp only [cT_app]
  rw [a1, a2, a3, a4, a5, a6, a7, a8, a9]
  unfold NL
  omega
theorem drop_c {T : List Nat} {i : Nat} (h : i < T.length) : c59 (T.drop i) = (if T.getD i 0 = 59 then 1 else 0) + c59 (T.drop (i + 1)) := by
  rw [List.drop_eq_getElem_cons h, List.getD_eq_getElem?_getD, List.getElem?_eq_getElem h]
  rfl
theorem n_lines4 {σ : Sg} {y : Nat} {T : List Nat} (h : StI σ y T) (hl : T.length ≤ 700) : ∀ (d i m acc : Nat), i + d = T.length → d < m → DL_lines_4 m y (nI acc) (nI i) σ = some (nI (acc + c59 (T.drop i)), σ) := by
  intro d
  induction d with
  | zero =>
    intro i m acc hi hm
    obtain ⟨m, rfl⟩ : ∃ k, m = k + 1 := ⟨m - 1, by omega⟩
    rw [DL_lines_4, h.p (by decide), chk_true, j_len h, bnd_some, if_pos ((nI_leI (by omega) (by omega)).mpr (by omega)), List.drop_eq_nil_of_le (by omega)]
    rfl
  | succ d ih =>
    intro i m acc hi hm
    obtain ⟨m, rfl⟩ : ∃ k, m = k + 1 := ⟨m - 1, by omega⟩
    have hb := h.2.2.2.2.2.2 i (by omega)
    rw [DL_lines_4, h.p (by decide), chk_true, j_len h, bnd_some, if_neg (fun z => by have := (nI_leI (by omega) (by omega)).mp z; omega), h.p (by decide), chk_true, j_charAt h (by omega) (by omega), bnd_some, drop_c (by omega)]
    unfold DL_lines_28
    rw [show nI i + (1 : Int32) = nI (i + 1) from nI_add _ _]
    by_cases q : T.getD i 0 = 59
    · rw [if_pos (show nI (T.getD i 0) = (59 : Int32) by rw [q]; rfl), if_pos q, show nI acc + (1 : Int32) = nI (acc + 1) from nI_add _ _, ih (i + 1) m (acc + 1) (by omega) (by omega), show acc + 1 + c59 (T.drop (i + 1)) = acc + (1 + c59 (T.drop (i + 1))) by omega]
    · rw [if_neg (show ¬ nI (T.getD i 0) = (59 : Int32) from fun z => q ((nI_eq (b := 59) (by omega) (by decide)).mp z)), if_neg q, show nI acc + (0 : Int32) = nI acc from Int32.add_zero _, ih (i + 1) m acc (by omega) (by omega), Nat.zero_add]
theorem n_lines {σ : Sg} {y : Nat} {T : List Nat} (h : StI σ y T) (hl : T.length ≤ 700) : DL_lines y σ = some (nI (c59 T), σ) := by
  have := n_lines4 h hl T.length 0 FU 0 (by omega) (by unfold FU; omega)
  rw [List.drop_zero, Nat.zero_add] at this
  exact this
theorem Gx.fin0 {l : List (Nat × Nat)} {A : Nat → Bool} {X : Nat → Prop} {σ τ : Sg} {k : Nat} (h : Gx (fF l) A X σ τ k) (hF : Fin0 σ) (hf : (frL.all fun q => !(fF l q.1 q.2.1)) = true) : Fin0 τ := by
  refine ⟨h.2.2.2.1.trans hF.1, fun q hq => ?_⟩
  have hl := (show ∀ q ∈ frL, q.1 < 1000 by decide) q hq
  have := List.all_eq_true.mp hf q hq
  rw [(h.1 q.1 q.2.1 hl (by simpa using this)).2.2]
  exact hF.2 q hq
abbrev DF : List (Nat × Nat) := [(1, 1), (1, 2), (1, 3), (26, 10), (25, 1), (25, 2)] ++ LF
abbrev DA : List Nat := 2 :: (LAs ++ [27, 28, 29, 30, 32, 33])
theorem gx_up {l l2 : List (Nat × Nat)} {m m2 : List Nat} {X : Nat → Prop} {σ τ : Sg} {k : Nat} (h : Gx (fF l) (fA m) X σ τ k) (h1 : (l.all fun q => fF l2 q.1 q.2) = true) (h2 : (m.all fun q => fA m2 q) = true) : Gx (fF l2) (fA m2) X σ τ k := by
  refine h.mono (fun a i hf => ?_) (fun a hf => ?_) (fun _ _ z => z) (Nat.le_refl _)
  · cases e : fF l a i with
    | false => rfl
    | true =>
      unfold fF at e
      obtain ⟨q, q1, q2⟩ := List.any_eq_true.mp e
      have := List.all_eq_true.mp h1 q q1
      simp only [Bool.and_eq_true, beq_iff_eq, decide_eq_true_eq] at q2
      rw [q2.1, q2.2, hf] at this
      exact absurd this (by decide)
  · cases e : fA m a with
    | false => rfl
    | true =>
      unfold fA at e
      obtain ⟨q, q1, q2⟩ := List.any_eq_true.mp e
      have := List.all_eq_true.mp h2 q q1
      simp only [beq_iff_eq, decide_eq_true_eq] at q2
      rw [q2, hf] at this
      exact absurd this (by decide)
theorem l_desk {c : Nat → Int32} {σ : Sg} (hW : WT c σ) (hF : Fin0 σ) (h1 : gI σ 1 1 = 0) (h2 : gR σ 1 2 = 3) (h3 : gR σ 1 3 = 14) : Ok (DL_desk_8 1024 1 σ) (fun r τ => r = 1 ∧ TT c τ ∧ Gx (fF DF) (fA DA) (fun _ => False) σ τ 2600) := by
  have hT := TX_len (c := c)
  unfold DL_desk_8
  refine ok_bnd (l_text hW) (fun y τ1 g1 => ?_)
  obtain ⟨k1, y1⟩ := g1
  have x1 : Gx (fF [(1, 1)]) (fA [2]) (fun _ => False) σ τ1 2300 := k1.gx (fun _ _ z => z)
  have F1 := (k1.gx (F := fF []) (A := fA []) (fun _ _ z => z)).fin0 hF (by decide)
  have e1 := (k1.1 1 (by omega) (fun z => z)).1 1
  unfold DL_desk_12
  refine ok_bnd (l_put (hW.f k1) F1 y1 (by omega) (e1.trans h1)) (fun _ τ2 g2 => ?_)
  obtain ⟨x2, ⟨m, m1, m2, m3⟩, tp⟩ := g2
  have x12 := x1.tr x2 (fun _ _ z => z) (fun _ z => z) (fun _ _ z => z)
  have F2 := x12.fin0 hF (by decide)
  have y2 := y1.x x2 (fun z => z) (fun z => z)
  have r2 := (x12.1 1 2 (by decide) (by decide)).2.2.trans h2
  have r3 := (x12.1 1 3 (by decide) (by decide)).2.2.trans h3
  unfold DL_desk_18
  rw [y2.p (by decide), chk_true, j_len y2, bnd_some, c_o F2, chk_true]
  refine ok_bnd (l_told F2 r3 r2 m3 m1 (by omega) tp) (fun r τ3 g3 => ?_)
  obtain ⟨rfl, t3, f3⟩ := g3
  have x3 : Gx (fF DF) (fA (LAs ++ [27, 28, 29, 30, 32, 33])) (fun _ => False) τ2 τ3 0 := f3.gx (by decide) (by decide)
  have y3 := y2.x x3 (fun z => z) (fun z => z)
  rw [ckT2_fr f3, chk_true, n_lines y3 (by omega), bnd_some, c59_TX, if_pos rfl]
  exact ok_some.mpr ⟨rfl, t3, ((gx_up x12 (l2 := DF) (m2 := DA) (by decide) (by decide)).tr (gx_up x3 (l2 := DF) (m2 := DA) (by decide) (by decide)) (fun _ _ z => z) (fun _ z => z) (fun _ _ z => z)).mono (fun _ _ z => z) (fun _ z => z) (fun _ _ z => z) (by omega)⟩

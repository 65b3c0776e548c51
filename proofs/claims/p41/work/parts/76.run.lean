/-! THE LAW'S TEXT READ -/
def wc (l p q g b v s r t : Nat) (j : Nat) : Nat := if j = 0 then l else if j = 1 then p else if j = 2 then q else if j = 3 then g else if j = 4 then b else if j = 5 then v else if j = 6 then s else if j = 7 then r else if j = 9 then t else 0
theorem wc_1 (l p q g b v s r t x : Nat) : W1 (stV (wc l p q g b v s r t) 1 x) = wc (l + 1) x q g b v s r t := by
  funext j; unfold W1 stV wc; (repeat' split) <;> omega
theorem wc_2 (l p q g b v s r t x : Nat) : W1 (stV (wc l p q g b v s r t) 2 x) = wc (l + 1) p x g b v s r t := by
  funext j; unfold W1 stV wc; (repeat' split) <;> omega
theorem wc_3 (l p q g b v s r t x : Nat) : W1 (stV (wc l p q g b v s r t) 3 x) = wc (l + 1) p q x b v s r t := by
  funext j; unfold W1 stV wc; (repeat' split) <;> omega
theorem wc_4 (l p q g b v s r t x : Nat) : W1 (stV (wc l p q g b v s r t) 4 x) = wc (l + 1) p q g x v s r t := by
  funext j; unfold W1 stV wc; (repeat' split) <;> omega
theorem wc_5 (l p q g b v s r t x : Nat) : W1 (stV (wc l p q g b v s r t) 5 x) = wc (l + 1) p q g b x s r t := by
  funext j; unfold W1 stV wc; (repeat' split) <;> omega
theorem wc_6 (l p q g b v s r t x : Nat) : W1 (stV (wc l p q g b v s r t) 6 x) = wc (l + 1) p q g b v x r t := by
  funext j; unfold W1 stV wc; (repeat' split) <;> omega
theorem wc_7 (l p q g b v s r t x : Nat) : W1 (stV (wc l p q g b v s r t) 7 x) = wc (l + 1) p q g b v s x t := by
  funext j; unfold W1 stV wc; (repeat' split) <;> omega
theorem wc_9 (l p q g b v s r t x : Nat) : W1 (stV (wc l p q g b v s r t) 9 x) = wc (l + 1) p q g b v s r x := by
  funext j; unfold W1 stV wc; (repeat' split) <;> omega
section
variable {T : Nat → Int32} {n : Nat} {Q : Int32 → Sg → Prop}
theorem tx_ln {m i : Nat} {τ : Sg} {x : Nat × Nat} {L0 : List (Nat × Nat)} {P : Int32 → Sg → Prop} (hR : RdT T n τ (x :: L0)) (hx : 0 < x.1) (hx2 : x.1 < 20) (hi : i < n) (hn : n ≤ 1200) (h : Ok (DX3_readLine 25 τ) P) (hP : ∀ r υ, P r υ → r = 1) (k : ∀ r υ, P r υ → Ok (DX7_text_34 m 1 (nI n) (nI (i + 1)) υ) Q) : Ok (DX7_text_34 (m + 1) 1 (nI n) (nI i) τ) Q := by
  have hF := hR.fin
  have r14 : gR τ 1 4 = 25 := hF.2 (1, 4, 25) (by decide)
  have et := hR.tk
  rw [DX7_text_34, if_neg (fun z => by have := (nI_leI (by omega) (by omega)).mp z; omega), c_o hF, chk_true, r14, show ckV 25 = true by decide, chk_true, c_ck hF, chk_true]
  have eh : DX3_hasLine 25 τ = some (1, τ) := by
    unfold DX3_hasLine DX3_hasLine_15
    rw [c_ck hF, chk_true, et, show ckV (1000 + x.1) = true from decide_eq_true (by omega), chk_true, ckT_n hx2, show ckT 1000 = true by decide, Bool.and_self, chk_true, if_neg (by omega), show ck01 (1 : Int32) = true by decide, chk_true]
  refine ok_bnd_eq eh ?_
  rw [if_neg (by decide), c_o hF, chk_true, r14, show ckV 25 = true by decide, chk_true, c_ck hF, chk_true]
  refine ok_bnd h (fun r υ hu => ?_)
  rw [hP r υ hu, if_neg (by decide), show nI i + (1 : Int32) = nI (i + 1) from nI_add _ _]
  exact k r υ hu
theorem tx_end {m i : Nat} {τ : Sg} (hR : RdT T n τ []) (h : Ok (DX7_text_67 1 τ) Q) : Ok (DX7_text_34 (m + 1) 1 (nI n) (nI i) τ) Q := by
  have hF := hR.fin
  have r14 : gR τ 1 4 = 25 := hF.2 (1, 4, 25) (by decide)
  have et := hR.t0
  rw [DX7_text_34]
  by_cases q : nI n ≤ nI i
  · rw [if_pos q]; exact h
  · rw [if_neg q, c_o hF, chk_true, r14, show ckV 25 = true by decide, chk_true, c_ck hF, chk_true]
    have eh : DX3_hasLine 25 τ = some (0, τ) := by
      unfold DX3_hasLine DX3_hasLine_15
      rw [c_ck hF, chk_true, et, show ckV 1000 = true by decide, chk_true, show ckT 1000 = true by decide, Bool.and_self, chk_true, if_pos rfl, show ck01 (0 : Int32) = true by decide, chk_true]
    refine ok_bnd_eq eh ?_
    rw [if_pos rfl]
    exact h
/-- a line of each -/
def LnS (T : Nat → Int32) (n : Nat) (f : Nat → List Itm) (N : Nat) (S : Nat → Nat → Sg → Prop) : Prop :=
  ∀ i, i < N → ∃ x L1, (f i).map tkI = x :: L1 ∧ 0 < x.1 ∧ x.1 < 20 ∧ ∀ l τ M, S l i τ → RdT T n τ (x :: (L1 ++ M)) → Ok (DX3_readLine 25 τ) (fun r υ => r = 1 ∧ RdT T n υ M ∧ S (l + 1) (i + 1) υ)
theorem tx_loop {f : Nat → List Itm} {N m : Nat} {S : Nat → Nat → Sg → Prop} {M : List (Nat × Nat)} (hn : n ≤ 1200) (hl : LnS T n f N S) : ∀ (d i l : Nat) (τ : Sg), i + d = N → l + d ≤ n → S l i τ → RdT T n τ (fmT f i d ++ M) →
    (∀ υ, RdT T n υ M → S (l + d) N υ → Ok (DX7_text_34 m 1 (nI n) (nI (l + d)) υ) Q) → Ok (DX7_text_34 (d + m) 1 (nI n) (nI l) τ) Q := by
  intro d
  induction d with
  | zero =>
    intro i l τ hi hb hS hR hQ
    rw [Nat.zero_add]
    have := hQ τ hR (by rw [Nat.add_zero, ← hi]; exact hS)
    rwa [Nat.add_zero] at this
  | succ d ih =>
    intro i l τ hi hb hS hR hQ
    obtain ⟨x, L1, e1, e2, e3, e4⟩ := hl i (by omega)
    rw [fmT_s, e1, List.append_assoc] at hR
    have hR : RdT T n τ (x :: (L1 ++ (fmT f (i + 1) d ++ M))) := hR
    rw [show d + 1 + m = (d + m) + 1 by omega]
    refine tx_ln hR e2 e3 (by omega) hn (e4 l τ _ hS hR) (fun r υ hu => hu.1) (fun r υ hu => ?_)
    refine ih (i + 1) (l + 1) υ (by omega) (by omega) hu.2.2 hu.2.1 (fun ω o1 o2 => ?_)
    have := hQ ω o1 (by rw [show l + (d + 1) = l + 1 + d by omega]; exact o2)
    rwa [show l + (d + 1) = l + 1 + d by omega] at this
end
/-- how many bases are told -/
def nB (c : Nat → Int32) : Nat := min (nBs c) (nCa c * (nPl c - 1))
theorem bI_lt {c : Nat → Int32} {k : Nat} : bI c k = true ↔ k < nCa c * (nPl c - 1) := by
  unfold bI
  exact decide_eq_true_iff
theorem bs_cut {c : Nat → Int32} : ∀ (d i : Nat), i + d = nBs c → fmT (itBs c) i d = fmT (itBs c) i (nB c - i)
  | 0, i, h => by
    have : nB c ≤ nBs c := Nat.min_le_left _ _
    rw [show nB c - i = 0 by omega]
  | d + 1, i, h => by
    have ih := bs_cut (c := c) d (i + 1) (by omega)
    by_cases q : i < nB c
    · rw [show nB c - i = (nB c - (i + 1)) + 1 by omega, fmT_s, fmT_s, ih]
    · have hb : ¬ bI c i = true := fun z => by
        have := bI_lt.mp z
        unfold nB at q
        omega
      rw [fmT_s, ih, show nB c - (i + 1) = 0 by omega, show nB c - i = 0 by omega, show itBs c i = [] from if_neg hb]
      rfl
/-- lines of the law's text -/
def nRl (c : Nat → Int32) : Nat := if nRg c = 0 then 0 else 1
def NL (c : Nat → Int32) : Nat := 1 + nPl c + nCa c + (nPl c - 1) + nRl c + nBd c + nPr c + nB c + nTk c
def Wf (c : Nat → Int32) : Nat → Nat := wc (NL c) (nPl c) (nCa c) (nPl c - 1 + nRl c) (nBd c) (nPr c) (nB c) (nRt c) (nTk c)
section
variable {T : Nat → Int32} {n : Nat} {c : Nat → Int32} {τ0 : Sg}
abbrev Fx (τ0 τ : Sg) : Prop := Fr (fF LF) (fA LAs) τ0 τ
theorem ls_pl {r : Nat} : LnS T n itPl (nPl c) (fun l i τ => Bk c (fun _ _ => 1000000) (wc l i 0 0 0 0 0 r 0) τ ∧ Fx τ0 τ) := fun i hi => by
  have bp := nPl_b c
  refine ⟨(5, 0), [(4, plN i), (2, 0)], rfl, by decide, by decide, fun l τ M hS hR => ?_⟩
  refine (l_Place (p := i) hR hS.1 ⟨(by show i ≤ 5; omega), Nat.zero_le _, Nat.zero_le _, Nat.zero_le _, Nat.zero_le _, Nat.zero_le _, Nat.zero_le _⟩ rfl (by omega)).mono (fun r υ hu => ?_)
  obtain ⟨u1, u2, u3, u4⟩ := hu
  rw [wc_1] at u3
  exact ⟨u1, u2, u3, hS.2.trans u4⟩
theorem ls_ca {r : Nat} : LnS T n itCa (nCa c) (fun l i τ => Bk c (fun _ _ => 1000000) (wc l (nPl c) i 0 0 0 0 r 0) τ ∧ Fx τ0 τ) := fun i hi => by
  have bp := nPl_b c
  have bc := nCa_b c
  refine ⟨(6, 0), [(4, caN i), (2, 0)], rfl, by decide, by decide, fun l τ M hS hR => ?_⟩
  refine (l_Carrier (p := i) hR hS.1 ⟨(by show nPl c ≤ 5; omega), (by show i ≤ 4; omega), Nat.zero_le _, Nat.zero_le _, Nat.zero_le _, Nat.zero_le _, Nat.zero_le _⟩ rfl (by omega)).mono (fun r υ hu => ?_)
  obtain ⟨u1, u2, u3, u4⟩ := hu
  rw [wc_2] at u3
  exact ⟨u1, u2, u3, hS.2.trans u4⟩
theorem ls_lg {r : Nat} : LnS T n (itLg c) (nPl c - 1) (fun l i τ => Bk c (rowL c i) (wc l (nPl c) (nCa c) i 0 0 0 r 0) τ ∧ Fx τ0 τ) := fun i hi => by
  have bp := nPl_b c
  have bc := nCa_b c
  have bl := nLg_b c i
  obtain ⟨s1, s2, s3, s4⟩ := rowL_s (c := c) i
  refine ⟨(7, 0), [(4, plN i), (4, plN (i + 1)), (3, nLg c i), (2, 0)], rfl, by decide, by decide, fun l τ M hS hR => ?_⟩
  refine (l_Leg (L' := rowL c (i + 1)) (P := nPl c) (q1 := i) (q2 := i + 1) (v := nLg c i) hR hS.1 ⟨(by show nPl c ≤ 5; omega), (by show nCa c ≤ 4; omega), (by show i ≤ 5; omega), Nat.zero_le _, Nat.zero_le _, Nat.zero_le _, Nat.zero_le _⟩ rfl (by omega) (by omega) (by omega) bl.1 (by omega) s4 (fun x y => (rowL_b _ x y).1) (fun x y => (rowL_b _ x y).1) (fun x y h => rowL_f (by omega) h) (fun x y h => rowL_f (by omega) h) s1 s2 s3 (fun x y _ _ => rowL_le i x y)).mono (fun r υ hu => ?_)
  obtain ⟨u1, u2, u3, u4⟩ := hu
  rw [wc_3] at u3
  exact ⟨u1, u2, u3, hS.2.trans u4⟩
theorem ls_bd {r g : Nat} : LnS T n (itBd c) (nBd c) (fun l i τ => Bk c (allL c) (wc l (nPl c) (nCa c) g i 0 0 r 0) τ ∧ Fx τ0 τ) := fun i hi => by
  have bb := nBd_b c
  refine ⟨(8, 0), [(3, nUp c i), (3, nWt c i), (2, 0)], rfl, by decide, by decide, fun l τ M hS hR => ?_⟩
  refine (l_Band (p := i) hR hS.1 rfl (by omega)).mono (fun r υ hu => ?_)
  obtain ⟨u1, u2, u3, u4⟩ := hu
  rw [wc_4] at u3
  exact ⟨u1, u2, u3, hS.2.trans u4⟩
theorem pr_tk (c : Nat → Int32) (p : Nat) : (itPr c p).map tkI = (9, 0) :: ((4, caN (pC c p)) :: (tkA c p ++ ((10 + pK c p, 0) :: (3, pV c p) :: (tkW c p ++ [(2, 0)])))) := by
  unfold itPr itPrA itPrW tkA tkW
  cases pA c p <;> cases pW c p <;> rfl
theorem ls_pr {r g b : Nat} : LnS T n (itPr c) (nPr c) (fun l i τ => Bk c (allL c) (wc l (nPl c) (nCa c) g b i 0 r 0) τ ∧ Fx τ0 τ) := fun i hi => by
  have bb := nPr_b c
  refine ⟨(9, 0), _, pr_tk c i, by decide, by decide, fun l τ M hS hR => ?_⟩
  have hR : RdT T n τ ((9, 0) :: (4, caN (pC c i)) :: (tkA c i ++ ((10 + pK c i, 0) :: (3, pV c i) :: (tkW c i ++ (2, 0) :: M)))) := by
    have e : ((9, 0) :: (((4, caN (pC c i)) :: (tkA c i ++ ((10 + pK c i, 0) :: (3, pV c i) :: (tkW c i ++ [(2, 0)])))) ++ M) : List (Nat × Nat)) = (9, 0) :: (4, caN (pC c i)) :: (tkA c i ++ ((10 + pK c i, 0) :: (3, pV c i) :: (tkW c i ++ (2, 0) :: M))) := by
      simp only [List.cons_append, List.append_assoc, List.nil_append]
    rw [e] at hR
    exact hR
  refine (l_Proviso (p := i) hR hS.1 rfl rfl rfl (by omega)).mono (fun r υ hu => ?_)
  obtain ⟨u1, u2, u3, u4⟩ := hu
  rw [wc_5] at u3
  exact ⟨u1, u2, u3, hS.2.trans u4⟩
theorem ls_bs {r g b v : Nat} : LnS T n (itBs c) (nB c) (fun l i τ => Bk c (allL c) (wc l (nPl c) (nCa c) g b v i r 0) τ ∧ Fx τ0 τ) := fun i hi => by
  have bb := nBs_b c
  have h1 : nB c ≤ nBs c := Nat.min_le_left _ _
  have hI : bI c i = true := bI_lt.mpr (Nat.lt_of_lt_of_le hi (Nat.min_le_right _ _))
  refine ⟨(16, 0), [(4, caN (bC c i)), (4, plN (bP c i)), (4, plN (bP c i + 1)), (3, bV c i), (2, 0)], by rw [show itBs c i = _ from if_pos hI]; rfl, by decide, by decide, fun l τ M hS hR => ?_⟩
  refine (l_Base (p := i) hR hS.1 rfl rfl rfl (by omega) hI).mono (fun r υ hu => ?_)
  obtain ⟨u1, u2, u3, u4⟩ := hu
  rw [wc_6] at u3
  exact ⟨u1, u2, u3, hS.2.trans u4⟩
theorem tk_tk (c : Nat → Int32) (t : Nat) : (itTk c t).map tkI = (18, 0) :: ((4, tkN t) :: (3, nF c t) :: ((if nH c t = 0 then 19 else 16), 0) :: (4, plN (nAt c t 0)) :: (fmT (itCo c t) 0 (nCo c t) ++ [(2, 0)])) := by
  unfold itTk itHw fmT
  rw [List.map_cons, List.map_cons, List.map_cons, List.map_cons, List.map_cons, List.map_append]
  by_cases q : nH c t = 0
  · rw [if_pos q, if_pos q]; rfl
  · rw [if_neg q, if_neg q]; rfl
theorem ls_tk {r g b v s : Nat} : LnS T n (itTk c) (nTk c) (fun l i τ => Bk c (allL c) (wc l (nPl c) (nCa c) g b v s r i) τ ∧ Fx τ0 τ) := fun i hi => by
  have bb := nTk_b c
  refine ⟨(18, 0), _, tk_tk c i, by decide, by decide, fun l τ M hS hR => ?_⟩
  have hR : RdT T n τ ((18, 0) :: (4, tkN i) :: (3, nF c i) :: ((if nH c i = 0 then 19 else 16), 0) :: (4, plN (nAt c i 0)) :: (fmT (itCo c i) 0 (nCo c i) ++ (2, 0) :: M)) := by
    have e : ((18, 0) :: (((4, tkN i) :: (3, nF c i) :: ((if nH c i = 0 then 19 else 16), 0) :: (4, plN (nAt c i 0)) :: (fmT (itCo c i) 0 (nCo c i) ++ [(2, 0)])) ++ M) : List (Nat × Nat)) = (18, 0) :: (4, tkN i) :: (3, nF c i) :: ((if nH c i = 0 then 19 else 16), 0) :: (4, plN (nAt c i 0)) :: (fmT (itCo c i) 0 (nCo c i) ++ (2, 0) :: M) := by
      simp only [List.cons_append, List.append_assoc, List.nil_append]
    rw [e] at hR
    exact hR
  refine (l_Ticket (t := i) hR hS.1 rfl rfl rfl (by omega) (fun E hE x y hx hy => ?_)).mono (fun r υ hu => ?_)
  · have := clo_mz hE hx hy
    have := (mz_b hx hy).1
    omega
  · obtain ⟨u1, u2, u3, u4⟩ := hu
    rw [wc_9] at u3
    exact ⟨u1, u2, u3, hS.2.trans u4⟩
end

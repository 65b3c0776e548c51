/-! THE LAW'S TEXT, TOLD -/
/-- what stands behind it -/
def TT (c : Nat → Int32) (υ : Sg) : Prop :=
  Fin0 υ ∧ gR υ 1 2 = 14 ∧ (∀ j, j ∈ [0, 1, 2, 3, 4, 5, 6, 7, 9] → gI υ 14 j = nI (Wf c j)) ∧ Pl (allL c) υ ∧ Pb c (nBd c) υ ∧ Pv c (nPr c) υ ∧ Ps c (nB c) υ ∧ Pt c (nTk c) υ ∧ LedO υ 14 υ
theorem clo_0 : Clo (fun _ _ => 1000000) (fun x y => if x = y then 0 else 1000000) := by
  refine ⟨⟨fun x _ => if_pos rfl, fun x y _ _ h => ?_, fun x y z _ _ _ => ?_⟩, fun M hM x y hx hy => ?_⟩
  · show (if x = y then (0 : Int) else 1000000) ≤ 1000000
    rw [if_neg h]
    exact Int.le_refl _
  · show (if x = z then (0 : Int) else 1000000) ≤ (if x = y then 0 else 1000000) + (if y = z then 0 else 1000000)
    by_cases c1 : x = y
    · subst c1
      rw [if_pos rfl]
      omega
    · rw [if_neg c1]
      split <;> split <;> omega
  · show M x y ≤ if x = y then (0 : Int) else 1000000
    by_cases c : x = y
    · subst c
      rw [if_pos rfl, hM.1 x hx]
      exact Int.le_refl _
    · rw [if_neg c]
      exact hM.2.1 x y hx hy c
section
variable {T : Nat → Int32} {n : Nat} {c : Nat → Int32} {Q : Int32 → Sg → Prop}
theorem NL_b (c : Nat → Int32) : NL c ≤ 28 := by
  have b0 := nPl_b c
  have b1 := nCa_b c
  have b2 := nBd_b c
  have b3 := nPr_b c
  have b4 := nBs_b c
  have b5 := nTk_b c
  have h1 : nB c ≤ nBs c := Nat.min_le_left _ _
  unfold NL nRl
  split <;> omega
theorem fm_len2 {f : Nat → List Nat} {b : Nat} (h : ∀ i, b ≤ (f i).length) : ∀ (d i : Nat), b * d ≤ (fm f i d).length
  | 0, _ => Nat.zero_le _
  | d + 1, i => by
    have h1 := h i
    have h2 := fm_len2 h d (i + 1)
    unfold fm
    rw [List.length_append, Nat.mul_succ]
    omega
theorem TX_lo (c : Nat → Int32) : 28 ≤ (TX c).length := by
  have b0 := nPl_b c
  have b1 := nCa_b c
  have l1 := fm_len2 (f := lnPl) (b := 9) (fun i => by unfold lnPl; simp only [List.length_append, pll, txl_5, txl_4]; omega) (nPl c) 0
  have l2 := fm_len2 (f := lnCa) (b := 11) (fun i => by unfold lnCa; simp only [List.length_append, cal, txl_6, txl_4]; omega) (nCa c) 0
  unfold TX
  simp only [List.length_append]
  omega
/-- all lines, from the open reader on -/
theorem run_all {τ0 : Sg} {m : Nat} (hn : n ≤ 1200) (hn2 : 28 ≤ n) (hR : RdT T n τ0 ((TI c).map tkI)) (h : Bk c (fun _ _ => 1000000) (wc 0 0 0 0 0 0 0 10 0) τ0) (h8 : gI τ0 14 8 = 0) (hm : 30 ≤ m)
    (hQ : ∀ υ, Bk c (allL c) (Wf c) υ → Fx τ0 υ → RdT T n υ [] → Ok (DX7_text_67 1 υ) Q) : Ok (DX7_text_34 m 1 (nI n) (nI 0) τ0) Q := by
  have b0 := nPl_b c
  have b1 := nCa_b c
  have b2 := nBd_b c
  have b3 := nPr_b c
  have b4 := nBs_b c
  have b5 := nTk_b c
  have br := nRt_b c
  have hNL := NL_b c
  have h1 : nB c ≤ nBs c := Nat.min_le_left _ _
  have eNL : NL c = 1 + nPl c + nCa c + (nPl c - 1) + nRl c + nBd c + nPr c + nB c + nTk c := rfl
  have hcut := bs_cut (c := c) (nBs c) 0 (by omega)
  rw [Nat.sub_zero] at hcut
  have eT : (TI c).map tkI = (itRt c).map tkI ++ (fmT itPl 0 (nPl c) ++ (fmT itCa 0 (nCa c) ++ (fmT (itLg c) 0 (nPl c - 1) ++ ((if nRg c = 0 then [] else itRg c).map tkI ++ (fmT (itBd c) 0 (nBd c) ++ (fmT (itPr c) 0 (nPr c) ++ (fmT (itBs c) 0 (nB c) ++ (fmT (itTk c) 0 (nTk c) ++ [])))))))) := by
    rw [← hcut]
    unfold TI fmT
    simp only [List.map_append, List.append_assoc, List.append_nil]
  rw [eT] at hR
  obtain ⟨m2, em⟩ : ∃ m2, m = (1 + (nPl c + (nCa c + ((nPl c - 1) + (nRl c + (nBd c + (nPr c + (nB c + (nTk c + (m2 + 1)))))))))) := ⟨m - NL c - 1, by omega⟩
  have hR : RdT T n τ0 ((17, 0) :: (3, nRt c) :: (2, 0) :: (fmT itPl 0 (nPl c) ++ (fmT itCa 0 (nCa c) ++ (fmT (itLg c) 0 (nPl c - 1) ++ ((if nRg c = 0 then [] else itRg c).map tkI ++ (fmT (itBd c) 0 (nBd c) ++ (fmT (itPr c) 0 (nPr c) ++ (fmT (itBs c) 0 (nB c) ++ (fmT (itTk c) 0 (nTk c) ++ []))))))))) := hR
  rw [em, Nat.add_comm 1 (nPl c + _)]
  refine tx_ln hR (by decide) (by decide) (by omega) hn (l_Rate hR h h8 br.1 br.2) (fun r υ hu => hu.1) (fun r τ1 hu => ?_)
  obtain ⟨-, R1, B1, F1⟩ := hu
  rw [wc_7] at B1
  refine tx_loop hn (ls_pl (τ0 := τ0) (c := c) (r := nRt c)) (nPl c) 0 1 τ1 (by omega) (by omega) ⟨B1, F1⟩ R1 (fun τ2 R2 S2 => ?_)
  refine tx_loop hn (ls_ca (τ0 := τ0) (c := c) (r := nRt c)) (nCa c) 0 (1 + nPl c) τ2 (by omega) (by omega) S2 R2 (fun τ3 R3 S3 => ?_)
  have er0 : rowL c 0 = fun _ _ => (1000000 : Int) := by
    funext x y
    unfold rowL
    rw [if_neg (by omega), if_neg (by omega)]
  rw [← er0] at S3
  refine tx_loop hn (ls_lg (τ0 := τ0) (c := c) (r := nRt c)) (nPl c - 1) 0 (1 + nPl c + nCa c) τ3 (by omega) (by omega) S3 R3 (fun τ4 R4 S4 => ?_)
  -- the ring
  have rest : ∀ τ5, RdT T n τ5 (fmT (itBd c) 0 (nBd c) ++ (fmT (itPr c) 0 (nPr c) ++ (fmT (itBs c) 0 (nB c) ++ (fmT (itTk c) 0 (nTk c) ++ [])))) → Bk c (allL c) (wc (1 + nPl c + nCa c + (nPl c - 1) + nRl c) (nPl c) (nCa c) (nPl c - 1 + nRl c) 0 0 0 (nRt c) 0) τ5 → Fx τ0 τ5 → Ok (DX7_text_34 (nBd c + (nPr c + (nB c + (nTk c + (m2 + 1))))) 1 (nI n) (nI (1 + nPl c + nCa c + (nPl c - 1) + nRl c)) τ5) Q := fun τ5 R5 B5 F5 => by
    refine tx_loop hn (ls_bd (τ0 := τ0) (c := c) (r := nRt c) (g := nPl c - 1 + nRl c)) (nBd c) 0 _ τ5 (by omega) (by omega) ⟨B5, F5⟩ R5 (fun τ6 R6 S6 => ?_)
    refine tx_loop hn (ls_pr (τ0 := τ0) (c := c) (r := nRt c) (g := nPl c - 1 + nRl c) (b := nBd c)) (nPr c) 0 _ τ6 (by omega) (by omega) S6 R6 (fun τ7 R7 S7 => ?_)
    refine tx_loop hn (ls_bs (τ0 := τ0) (c := c) (r := nRt c) (g := nPl c - 1 + nRl c) (b := nBd c) (v := nPr c)) (nB c) 0 _ τ7 (by omega) (by omega) S7 R7 (fun τ8 R8 S8 => ?_)
    refine tx_loop hn (ls_tk (τ0 := τ0) (c := c) (r := nRt c) (g := nPl c - 1 + nRl c) (b := nBd c) (v := nPr c) (s := nB c)) (nTk c) 0 _ τ8 (by omega) (by omega) S8 R8 (fun τ9 R9 S9 => ?_)
    exact tx_end R9 (hQ τ9 S9.1 S9.2 R9)
  by_cases q : nRg c = 0
  · have e0 : nRl c = 0 := if_pos q
    rw [if_pos q] at R4
    rw [e0, Nat.zero_add]
    rw [e0] at rest
    refine rest τ4 R4 ?_ S4.2
    have ea : allL c = rowL c (nPl c - 1) := by
      funext x y
      unfold allL
      rw [if_neg (fun z => z.1 q)]
    rw [ea]
    exact S4.1
  · have e1 : nRl c = 1 := if_neg q
    have q2 := nRg_p q
    have br := nRg_b c
    rw [if_neg q] at R4
    have R4 : RdT T n τ4 ((7, 0) :: (4, plN (nPl c - 1)) :: (4, plN 0) :: (3, nRg c) :: (2, 0) :: (fmT (itBd c) 0 (nBd c) ++ (fmT (itPr c) 0 (nPr c) ++ (fmT (itBs c) 0 (nB c) ++ (fmT (itTk c) 0 (nTk c) ++ []))))) := R4
    rw [e1, Nat.add_comm 1 (nBd c + _)]
    rw [e1] at rest
    refine tx_ln R4 (by decide) (by decide) (by omega) hn (l_Leg (L' := allL c) (P := nPl c) (q1 := nPl c - 1) (q2 := 0) (v := nRg c) R4 S4.1 ⟨(by show nPl c ≤ 5; omega), (by show nCa c ≤ 4; omega), (by show nPl c - 1 ≤ 5; omega), Nat.zero_le _, Nat.zero_le _, Nat.zero_le _, Nat.zero_le _⟩ rfl (by omega) (by omega) (by omega) (by omega) (by omega) ?_ (fun x y => (rowL_b _ x y).1) (fun x y => (allL_b x y).1) (fun x y h => rowL_f (by omega) h) (fun x y h => allL_f h) (if_pos ⟨q, Or.inl ⟨rfl, rfl⟩⟩) (if_pos ⟨q, Or.inr ⟨rfl, rfl⟩⟩) (fun x y z1 z2 => ?_) (fun x y _ _ => ?_)) (fun r υ hu => hu.1) (fun r τ5 hu => ?_)
    · unfold rowL
      rw [if_neg (by omega), if_neg (by omega)]
    · unfold allL
      rw [if_neg (fun z => by rcases z.2 with z3 | z3; exact z1 z3; exact z2 ⟨z3.1, z3.2⟩)]
    · unfold allL
      by_cases z : nRg c ≠ 0 ∧ ((x = nPl c - 1 ∧ y = 0) ∨ (x = 0 ∧ y = nPl c - 1))
      · rw [if_pos z]
        have : rowL c (nPl c - 1) x y = 1000000 := by
          unfold rowL
          rw [if_neg (by omega), if_neg (by omega)]
        rw [this]
        omega
      · rw [if_neg z]
        exact Int.le_refl _
    · obtain ⟨-, R5, B5, F5⟩ := hu
      have e3 : wc (1 + nPl c + nCa c + (nPl c - 1)) (nPl c) (nCa c) (nPl c - 1) 0 0 0 (nRt c) 0 3 = nPl c - 1 := rfl
      rw [wc_3, e3] at B5
      exact rest τ5 R5 B5 (S4.2.trans F5)
theorem l_told {σ : Sg} {m : Nat} (hF : Fin0 σ) (h3 : gR σ 1 3 = 14) (h2 : gR σ 1 2 = 3) (h1 : gI σ 1 1 = nI m) (hm : (TX c).length ≤ m) (hm2 : m ≤ 1200) (hT : ∀ i, i < (TX c).length → aI σ 2 i = nI ((TX c).getD i 0)) :
    Ok (DX7_text 1 (nI (TX c).length) σ) (fun r υ => r = nI (NL c) ∧ TT c υ ∧ Fr (fF ([(1, 1), (1, 2), (1, 3), (26, 10), (25, 1), (25, 2)] ++ LF)) (fA (LAs ++ [27, 28, 29, 30, 32, 33])) σ υ) := by
  have hl := TX_len (c := c)
  have hlo := TX_lo c
  obtain ⟨n, en⟩ : ∃ n, (TX c).length = n := ⟨_, rfl⟩
  rw [en] at hm hT hl hlo ⊢
  have f1 : Fr (fF [(1, 1)]) (fA []) σ (pI σ 1 1 0) := Fr.rf.pI 1 1 _ rfl
  have F1 := f1.fin hF (by decide)
  have r14 : gR σ 1 4 = 25 := hF.2 (1, 4, 25) (by decide)
  refine ok_of_q (fun Q hQ => ?_)
  unfold DX7_text
  rw [if_neg (show ¬ nI n < 0 from nI_nlt (b := 0) (by omega) (by omega)), c_o hF, chk_true, h1, if_pos ((nI_leI (by omega) (by omega)).mpr hm), chk_true, wlet_eq, c_o F1, chk_true, show gR (pI σ 1 1 0) 1 4 = 25 from r14, show ckV 25 = true by decide, chk_true, show gR (pI σ 1 1 0) 1 3 = 14 from h3, show ckV 14 = true by decide]
  simp only [chk_true]
  rw [c_ck F1, chk_true]
  refine ok_bnd (c_open (T := fun i => nI ((TX c).getD i 0)) (b := 14) (n := n) F1 isB14 (fun i hi => hT i hi) (by omega)) (fun _ τ hu => ?_)
  obtain ⟨u1, u2, u3, u4, ⟨pt, u5⟩, u6, u7⟩ := hu
  have u1 : Fr (fF ([(25, 1), (25, 2)] ++ LF)) (fA LAs) (pI σ 1 1 0) τ := u1
  have hTok : Tok (fun i => nI ((TX c).getD i 0)) n (nxP (fun i => nI ((TX c).getD i 0)) n 0) ((TI c).map tkI) := tok_rd (TI c) [] (by rw [List.nil_append, rdTI, en]) (fun i hi => by rw [List.nil_append, rdTI]) chTI
  have hR : RdT (fun i => nI ((TX c).getD i 0)) n τ ((TI c).map tkI) := ⟨_, _, _, u5, hTok⟩
  have e5 : ∀ x y, x < 12 → y < 12 → (aG τ 19 x y).toInt = if x = y then 0 else 1000000 := fun x y hx hy => by
    rw [show aG τ 19 x y = _ from (u7 x y hx hy).2]
    split <;> decide
  have B0 : Bk c (fun _ _ => 1000000) (wc 0 0 0 0 0 0 0 10 0) τ := by
    refine ⟨u2, fun j hj => ?_, ⟨fun j hj => absurd hj (Nat.not_lt_zero _), fun j hj => absurd hj (Nat.not_lt_zero _), fun j hj => absurd hj (Nat.not_lt_zero _)⟩, ⟨fun x y hx hy _ => (u7 x y hx hy).1, clo_cg clo_0 (fun _ _ _ _ => rfl) e5, fun x y hx hy => by rw [e5 x y hx hy]; split <;> decide⟩, fun i hi => absurd hi (Nat.not_lt_zero _), fun i hi => absurd hi (Nat.not_lt_zero _), fun i hi => absurd hi (Nat.not_lt_zero _), fun i hi => absurd hi (Nat.not_lt_zero _)⟩
    have := u6 j ((show ∀ j ∈ [0, 1, 2, 3, 4, 5, 6, 7, 9], j < 10 by decide) j hj)
    rw [this]
    exact (show ∀ j ∈ [0, 1, 2, 3, 4, 5, 6, 7, 9], nI (W00 j) = nI (wc 0 0 0 0 0 0 0 10 0 j) by decide) j hj
  refine run_all (by omega) (by omega) hR B0 (u6 8 (by decide)) (by unfold FU; omega) (fun υ B F R => ?_)
  have fu : Fr (fF ([(1, 1), (25, 1), (25, 2)] ++ LF)) (fA LAs) σ υ := ((f1.up (by decide) (by decide)).trans (u1.up (by decide) (by decide))).trans (F.up (by decide) (by decide))
  refine (c_end67 (b := 3) (d := 14) R.fin (Or.inl rfl) isB14 ((fu.R 1 2 (by decide)).trans h2) ((fu.R 1 3 (by decide)).trans h3)).mono (fun r ω hw => ?_)
  obtain ⟨w1, w2, w3, w4, w5⟩ := hw
  obtain ⟨c0, c1, c2, c3, c4, c5, c6, c7⟩ := B
  refine hQ r ω ⟨?_, ⟨w2.fin R.fin (by decide), w3, fun j hj => ?_, c3.fr w2 (by decide) (by decide), c4.fr w2 (by decide), c5.fr w2 (by decide), c6.fr w2 (by decide), c7.fr w2 (by decide) (by decide), ?_⟩, (fu.up (by decide) (by decide)).trans (w2.up (by decide) (by decide))⟩
  · rw [w1, c1 0 (by decide)]
    rfl
  · rw [w2.I 14 j ((show ∀ j ∈ [0, 1, 2, 3, 4, 5, 6, 7, 9], fF [(1, 2), (1, 3), (26, 10)] 14 j = false by decide) j hj)]
    exact c1 j hj
  · have e23 : aG ω 23 = aG υ 23 := funext fun x => funext fun y => w2.aG 23 (by decide) x y
    unfold LedO at w5 ⊢
    rw [show aG ω (14 + 9) = aG υ (14 + 9) from e23]
    exact w5
end

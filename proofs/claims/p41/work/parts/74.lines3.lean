/-! LINES: ticket -/
/-- so much of a ticket's row -/
def Pr (c : Nat → Int32) (t k : Nat) (τ : Sg) : Prop := aG τ 23 t 0 = nI (nF c t) ∧ aG τ 23 t 1 = nI (nH c t) ∧ aG τ 23 t 2 = nI k ∧ (∀ j, j < k → aG τ 23 t (3 + j) = nI (nCr c t j)) ∧ ∀ j, j ≤ k → aG τ 24 t j = nI (nAt c t j)
section
variable {T : Nat → Int32} {n : Nat} {M : List (Nat × Nat)} {c : Nat → Int32} {L : Nat → Nat → Int} {W : Nat → Nat} {τ : Sg}
theorem Pr.fr {t k : Nat} {υ : Sg} (h : Pr c t k τ) (hf : Fr (fF RdC) (fA []) τ υ) : Pr c t k υ := by
  have e1 : aG υ 23 = aG τ 23 := funext fun x => funext fun y => hf.aG 23 rfl x y
  have e2 : aG υ 24 = aG τ 24 := funext fun x => funext fun y => hf.aG 24 rfl x y
  unfold Pr
  rw [e1, e2]
  exact h
/-- writes in a row behind those told -/
theorem Bk.row {t : Nat} {υ : Sg} (h : Bk c L W τ) (hf : Fr (fF []) (fA [23, 24]) τ υ) (ht : W 9 = t) (e1 : ∀ x y, x < t → aG υ 23 x y = aG τ 23 x y) (e2 : ∀ x y, x < t → aG υ 24 x y = aG τ 24 x y) : Bk c L W υ := by
  obtain ⟨b0, b1, b2, b3, b4, b5, b6, b7⟩ := h
  refine ⟨(hf.R 25 1 rfl).trans b0, fun j hj => (hf.I 14 j rfl).trans (b1 j hj), b2.fr hf rfl rfl rfl, b3.fr hf rfl rfl, b4.fr hf rfl, b5.fr hf rfl, b6.fr hf rfl, fun x hx => ?_⟩
  obtain ⟨p1, p2, p3, p4, p5⟩ := b7 x hx
  exact ⟨(e1 x 0 (by omega)).trans p1, (e1 x 1 (by omega)).trans p2, (e1 x 2 (by omega)).trans p3, fun j hj => (e1 x _ (by omega)).trans (p4 j hj), fun j hj => (e2 x _ (by omega)).trans (p5 j hj)⟩
abbrev RC2 : List Nat := [23, 24]
theorem c_coupon {t k : Nat} (hR : RdT T n τ ((4, caN (nCr c t k)) :: (4, plN (nAt c t (k + 1))) :: M)) (h : Bk c L W τ) (hP : W 1 = nPl c) (hC : W 2 = nCa c) (ht : W 9 = t) (ht3 : t < 3) (hk : k < 5) (hr : Pr c t k τ) (hU : ∀ E, Clo L E → ∀ x y, x < nPl c → y < nPl c → E x y < 1000000) :
    Ok (DX3_readCoupon 25 (nI k) (nI (nAt c t k)) τ) (fun r υ => r = nI (nAt c t (k + 1)) ∧ Fr (fF RdC) (fA RC2) τ υ ∧ RdT T n υ M ∧ Bk c L W υ ∧ Pr c t (k + 1) υ) := by
  have bc := nCa_b c
  have bp := nPl_b c
  have b1 := nCr_b c t k
  have b2 := nAt_b c t k
  have b3 := nAt_b c t (k + 1)
  have hne := nAt_ne c t k
  unfold DX3_readCoupon
  rw [c_ck hR.fin, chk_true]
  refine ok_bnd (r_ca (q := nCr c t k) (f := caN) hR isB14 h.r (by rw [h.n (by decide), hC]) (by omega) (by rw [← hC]; exact h.nm.2.1) (by omega) rfl (fun j hj => (nmP (p := j) (q := nCr c t k) (by omega) (by omega) (by omega)).2.1) (fun j hj => (nmL (by omega)).2.1) (nI_neg' (by omega))) (fun r τ1 g1 => ?_)
  obtain ⟨rfl, k1, R1⟩ := g1
  have B1 := h.rd k1
  have r1 := hr.fr k1
  rw [if_neg (nI_neg (by omega)), if_pos (show nI k < (8 : Int32) from nI_lt (b := 8) (by omega) (by decide)), c_ck R1.fin, chk_true]
  refine ok_bnd (r_pl (q := nAt c t (k + 1)) (f := plN) R1 isB14 B1.r (by rw [B1.n (by decide), hP]) (by omega) (by rw [← hP]; exact B1.nm.1) (by omega) rfl (fun j hj => (nmP (p := j) (q := nAt c t (k + 1)) (by omega) (by omega) (by omega)).1) (fun j hj => (nmL (by omega)).1) (fun z => hne ((nI_eq (by omega) (by omega)).mp z).symm)) (fun r τ2 g2 => ?_)
  obtain ⟨rfl, k2, R2⟩ := g2
  have B2 := B1.rd k2
  have r2 := r1.fr k2
  have hw := c_hasWay (x := nAt c t k) (y := nAt c t (k + 1)) R2.fin isB14 (by omega) (by omega)
  have hD : ¬ (1000000 : Int32) ≤ aG τ2 (14 + 5) (nAt c t k) (nAt c t (k + 1)) := fun z => by
    have := hU _ B2.2.2.2.1.2.1 (nAt c t k) (nAt c t (k + 1)) b2 b3
    rw [Int32.le_iff_toInt_le, show (1000000 : Int32).toInt = 1000000 by decide] at z
    have z : 1000000 ≤ (aG τ2 19 (nAt c t k) (nAt c t (k + 1))).toInt := z
    omega
  rw [if_neg hD] at hw
  have ea := c_addCoupon (c := nI (nCr c t k)) (y := nI (nAt c t (k + 1))) (t := t) (k := k) R2.fin isB14 (by rw [B2.n (by decide), ht]) (by omega) (by omega)
  rw [if_neg (nI_neg (by omega)), c_ck R2.fin, chk_true, B2.r, show ckV 14 = true by decide, chk_true, b_ck R2.fin isB14, chk_true]
  refine ok_bnd_eq hw ?_
  rw [if_neg (by decide), c_ck R2.fin, chk_true, B2.r, show ckV 14 = true by decide, chk_true, b_ck R2.fin isB14, chk_true]
  refine ok_bnd_eq ea ?_
  have f3 : Fr (fF []) (fA [23, 24]) τ2 (wG (wG (wG τ2 (14 + 9) t 2 (nI (k + 1))) (14 + 9) t (3 + k) (nI (nCr c t k))) (14 + 10) t (k + 1) (nI (nAt c t (k + 1)))) := ((Fr.rf.wG 23 _ _ _ rfl).wG 23 _ _ _ rfl).wG 24 _ _ _ rfl
  have a23 : ∀ x y, aG (wG (wG (wG τ2 (14 + 9) t 2 (nI (k + 1))) (14 + 9) t (3 + k) (nI (nCr c t k))) (14 + 10) t (k + 1) (nI (nAt c t (k + 1)))) 23 x y = if x = t ∧ y = 3 + k then nI (nCr c t k) else if x = t ∧ y = 2 then nI (k + 1) else aG τ2 23 x y := fun x y => by
    rw [aG_wG, if_neg (by omega), aG_wG, aG_wG]
    simp only [true_and]
  have a24 : ∀ x y, aG (wG (wG (wG τ2 (14 + 9) t 2 (nI (k + 1))) (14 + 9) t (3 + k) (nI (nCr c t k))) (14 + 10) t (k + 1) (nI (nAt c t (k + 1)))) 24 x y = if x = t ∧ y = k + 1 then nI (nAt c t (k + 1)) else aG τ2 24 x y := fun x y => by
    rw [aG_wG, aG_wG, if_neg (show ¬ (24 = 14 + 9 ∧ x = t ∧ y = 3 + k) by omega), aG_wG, if_neg (show ¬ (24 = 14 + 9 ∧ x = t ∧ y = 2) by omega)]
    simp only [true_and]
  generalize wG (wG (wG τ2 (14 + 9) t 2 (nI (k + 1))) (14 + 9) t (3 + k) (nI (nCr c t k))) (14 + 10) t (k + 1) (nI (nAt c t (k + 1))) = τ3 at f3 a23 a24 ⊢
  have R3 := R2.fr f3 (by decide) (by decide) rfl
  refine ok_some.mpr ⟨rfl, ((k1.trans k2).up (by decide) (by decide)).trans (f3.up (by decide) (by decide)), R3, B2.row f3 ht (fun x y hx => ?_) (fun x y hx => ?_), ?_⟩
  · rw [a23, if_neg (by omega), if_neg (by omega)]
  · rw [a24, if_neg (by omega)]
  · obtain ⟨p1, p2, p3, p4, p5⟩ := r2
    refine ⟨?_, ?_, ?_, fun j hj => ?_, fun j hj => ?_⟩
    · rw [a23, if_neg (by omega), if_neg (by omega)]; exact p1
    · rw [a23, if_neg (by omega), if_neg (by omega)]; exact p2
    · rw [a23, if_neg (by omega), if_pos ⟨rfl, rfl⟩]
    · rw [a23]
      by_cases q : j = k
      · rw [if_pos ⟨rfl, by omega⟩, q]
      · rw [if_neg (by omega), if_neg (by omega)]; exact p4 j (by omega)
    · rw [a24]
      by_cases q : j = k + 1
      · rw [if_pos ⟨rfl, q⟩, q]
      · rw [if_neg (fun z => q z.2)]; exact p5 j (by omega)
theorem t_98 {t : Nat} {τ0 : Sg} (hR : RdT T n τ ((2, 0) :: M)) (h : Bk c L W τ) (ht : W 9 = t) (ht3 : t < 3) (hr : Pr c t (nCo c t) τ) (hf : Fr (fF RdC) (fA RC2) τ0 τ) : Ok (DX3_readTicket_98 25 (oJ (tkN t)) τ) (Ln T n M c L (W1 (stV W 9 (t + 1))) τ0) := by
  have ea := c_endTicket (x := oJ (tkN t)) (t := t) hR.fin isB14 (by rw [h.n (by decide), ht]) (by omega)
  unfold DX3_readTicket_98
  rw [c_ck hR.fin, chk_true, h.r, show ckV 14 = true by decide, chk_true, b_ck hR.fin isB14, chk_true]
  refine ok_bnd_eq ea ?_
  have f6 : Fr (fF [(14, 9)]) (fA [17]) τ (pI (wJ τ (14 + 3) t (oJ (tkN t))) 14 9 (nI (t + 1))) := (Fr.rf.wJ 17 _ _ rfl).pI 14 9 _ rfl
  generalize e6 : pI (wJ τ (14 + 3) t (oJ (tkN t))) 14 9 (nI (t + 1)) = τ6 at f6 ⊢
  have R6 := hR.fr f6 (by decide) (by decide) rfl
  have ec : gI τ6 14 9 = nI (t + 1) := by rw [← e6, gI_pI, if_pos ⟨rfl, rfl⟩]
  have n3 : Nms τ6 17 (t + 1) tkN := fun j hj => by
    rw [← e6, aJ_pI, aJ_wJ]
    by_cases q : j = t
    · rw [if_pos ⟨rfl, q⟩, q]
    · rw [if_neg (fun z => q z.2)]
      exact h.nm.2.2 j (by omega)
  have g23 : aG τ6 23 = aG τ 23 := funext fun x => funext fun y => f6.aG 23 rfl x y
  have g24 : aG τ6 24 = aG τ 24 := funext fun x => funext fun y => f6.aG 24 rfl x y
  have n7 : Pt c (t + 1) τ6 := fun x hx => by
    rw [g23, g24]
    by_cases q : x = t
    · rw [q]; exact hr
    · exact h.2.2.2.2.2.2.2 x (by omega)
  exact l_endw R6 (W := stV W 9 (t + 1)) ⟨(f6.R 25 1 rfl).trans h.r, cnt_st f6 h.2.1 ec, ⟨h.nm.1.fr f6 rfl, h.nm.2.1.fr f6 rfl, n3⟩, h.2.2.2.1.fr f6 rfl rfl, h.2.2.2.2.1.fr f6 rfl, h.2.2.2.2.2.1.fr f6 rfl, h.2.2.2.2.2.2.1.fr f6 rfl, n7⟩ ((hf.up (by decide) (by decide)).trans (f6.up (by decide) (by decide)))
theorem t_76 {t : Nat} {τ0 : Sg} (hP : W 1 = nPl c) (hC : W 2 = nCa c) (ht : W 9 = t) (ht3 : t < 3) (hU : ∀ E, Clo L E → ∀ x y, x < nPl c → y < nPl c → E x y < 1000000) : ∀ (d k m : Nat) (τ : Sg), k + d = nCo c t → d < m → RdT T n τ (fmT (itCo c t) k d ++ (2, 0) :: M) → Bk c L W τ → Pr c t k τ → Fr (fF RdC) (fA RC2) τ0 τ → Ok (DX3_readTicket_76 m 25 (oJ (tkN t)) (nI (nAt c t k)) (nI k) τ) (Ln T n M c L (W1 (stV W 9 (t + 1))) τ0) := by
  have bo := nCo_b c t
  have bp := nPl_b c
  intro d
  induction d with
  | zero =>
    intro k m τ hk hm hR h hr hf
    obtain ⟨m, rfl⟩ : ∃ k, m = k + 1 := ⟨m - 1, by omega⟩
    have hR : RdT T n τ ((2, 0) :: M) := hR
    have et : gR τ 25 4 = 1002 := hR.tk
    rw [DX3_readTicket_76, if_neg (show ¬ (8 : Int32) < nI k from nI_nlt (a := 8) (by omega) (by decide)), if_neg (show ¬ nI k ≤ 0 from fun z => by have := (nI_leI (b := 0) (by omega) (by decide)).mp z; omega), c_ck hR.fin, chk_true, et, show ckV 1002 = true by decide, chk_true, show (ckT 1002 && ckT 1002) = true by decide, chk_true, if_pos rfl]
    exact t_98 hR h ht ht3 (by rw [show nCo c t = k by omega]; exact hr) hf
  | succ d ih =>
    intro k m τ hk hm hR h hr hf
    obtain ⟨m, rfl⟩ : ∃ k, m = k + 1 := ⟨m - 1, by omega⟩
    have b3 := nAt_b c t (k + 1)
    rw [fmT_s, List.append_assoc] at hR
    have hR : RdT T n τ ((4, caN (nCr c t k)) :: (4, plN (nAt c t (k + 1))) :: (fmT (itCo c t) (k + 1) d ++ (2, 0) :: M)) := hR
    have go : Ok (DX3_readTicket_111 (DX3_readTicket_76 m) 25 (oJ (tkN t)) (nI (nAt c t k)) (nI k) τ) (Ln T n M c L (W1 (stV W 9 (t + 1))) τ0) := by
      unfold DX3_readTicket_111
      rw [c_ck hR.fin, chk_true]
      refine ok_bnd (c_coupon hR h hP hC ht ht3 (by omega) hr hU) (fun r τ1 g1 => ?_)
      obtain ⟨rfl, k1, R1, B1, r1⟩ := g1
      rw [if_neg (nI_neg (by omega)), show nI k + (1 : Int32) = nI (k + 1) from nI_add _ _]
      exact ih (k + 1) m τ1 (by omega) (by omega) R1 B1 r1 (hf.trans k1)
    rw [DX3_readTicket_76, if_neg (show ¬ (8 : Int32) < nI k from nI_nlt (a := 8) (by omega) (by decide))]
    by_cases q : k = 0
    · rw [if_pos (show nI k ≤ 0 from (nI_leI (b := 0) (by omega) (by decide)).mpr (by omega))]
      exact go
    · have et : gR τ 25 4 = 1004 := hR.tk
      rw [if_neg (show ¬ nI k ≤ 0 from fun z => by have := (nI_leI (b := 0) (by omega) (by decide)).mp z; omega), c_ck hR.fin, chk_true, et, show ckV 1004 = true by decide, chk_true, show (ckT 1004 && ckT 1002) = true by decide, chk_true, if_neg (by decide)]
      exact go
theorem l_Ticket {t : Nat} (hR : RdT T n τ ((18, 0) :: (4, tkN t) :: (3, nF c t) :: ((if nH c t = 0 then 19 else 16), 0) :: (4, plN (nAt c t 0)) :: (fmT (itCo c t) 0 (nCo c t) ++ (2, 0) :: M))) (h : Bk c L W τ) (hP : W 1 = nPl c) (hC : W 2 = nCa c) (ht : W 9 = t) (ht3 : t < 3) (hU : ∀ E, Clo L E → ∀ x y, x < nPl c → y < nPl c → E x y < 1000000) : Ok (DX3_readLine 25 τ) (Ln T n M c L (W1 (stV W 9 (t + 1))) τ) := by
  have bc := nCa_b c
  have bp := nPl_b c
  have bf := nF_b c t
  have bh := nH_b c t
  have b2 := nAt_b c t 0
  have bo := nCo_b c t
  rw [ds_Ticket hR h.r (by rw [h.n (by decide), ht]) (by omega)]
  refine ln_w ?_
  have hF := hR.fin
  unfold DX3_readTicket
  rw [c_ck hF, chk_true]
  refine ok_bnd (r_st hR) (fun _ τ1 g1 => ?_)
  obtain ⟨k1, R1⟩ := g1
  have B1 := h.rd k1
  rw [c_ck R1.fin, chk_true]
  refine ok_bnd (r_new R1 isB14 B1.r (B1.n (by decide)) (B1.n (by decide)) (B1.n (by decide)) (by omega) (by omega) (by omega) B1.nm.1 B1.nm.2.1 B1.nm.2.2 (fun j hj => ⟨(nmX' (p := j) (q := t) (by omega) (by omega)).2.1, (nmL (by omega)).1⟩) (fun j hj => ⟨(nmX' (p := j) (q := t) (by omega) (by omega)).2.2, (nmL (by omega)).2.1⟩) (fun j hj => ⟨(nmP (p := j) (q := t) (by omega) (by omega) (by omega)).2.2, (nmL (by omega)).2.2⟩) (nmL (by omega)).2.2) (fun r τ2 g2 => ?_)
  obtain ⟨rfl, k2, R2⟩ := g2
  have B2 := B1.rd k2
  rw [if_neg (nm_nz ⟨t, by omega⟩).2.2, c_ck R2.fin, chk_true]
  refine ok_bnd (r_num (lo := 1) (hi := 9999999) R2 (by omega) (by omega) (by omega)) (fun r τ3 g3 => ?_)
  obtain ⟨rfl, k3, R3⟩ := g3
  have B3 := B2.rd k3
  rw [if_neg (nI_neg (by omega)), c_ck R3.fin, chk_true]
  refine ok_bnd (r_how R3 (by split <;> omega)) (fun r τ4 g4 => ?_)
  obtain ⟨er, k4, R4⟩ := g4
  have er2 : r = nI (nH c t) := by
    rw [er]
    by_cases q : nH c t = 0
    · rw [if_pos q, if_pos rfl, q]; rfl
    · rw [if_neg q, if_neg (by decide), show nH c t = 1 by omega]; rfl
  subst er2
  have B4 := B3.rd k4
  rw [if_neg (nI_neg (by omega)), c_ck R4.fin, chk_true]
  refine ok_bnd (r_pl (q := nAt c t 0) (f := plN) R4 isB14 B4.r (by rw [B4.n (by decide), hP]) (by omega) (by rw [← hP]; exact B4.nm.1) (by omega) rfl (fun j hj => (nmP (p := j) (q := nAt c t 0) (by omega) (by omega) (by omega)).1) (fun j hj => (nmL (by omega)).1) (nI_neg' (by omega))) (fun r τ5 g5 => ?_)
  obtain ⟨rfl, k5, R5⟩ := g5
  have B5 := B4.rd k5
  have ea := c_beginTicket (x := nI (nF c t)) (y := nI (nH c t)) (z := nI (nAt c t 0)) (t := t) R5.fin isB14 (by rw [B5.n (by decide), ht]) (by omega)
  rw [if_neg (nI_neg (by omega)), c_ck R5.fin, chk_true, B5.r, show ckV 14 = true by decide, chk_true, b_ck R5.fin isB14, chk_true]
  refine ok_bnd_eq ea ?_
  have f6 : Fr (fF []) (fA [23, 24]) τ5 (wG (wG (wG (wG τ5 (14 + 9) t 0 (nI (nF c t))) (14 + 9) t 1 (nI (nH c t))) (14 + 9) t 2 0) (14 + 10) t 0 (nI (nAt c t 0))) := (((Fr.rf.wG 23 _ _ _ rfl).wG 23 _ _ _ rfl).wG 23 _ _ _ rfl).wG 24 _ _ _ rfl
  have a23 : ∀ x y, aG (wG (wG (wG (wG τ5 (14 + 9) t 0 (nI (nF c t))) (14 + 9) t 1 (nI (nH c t))) (14 + 9) t 2 0) (14 + 10) t 0 (nI (nAt c t 0))) 23 x y = if x = t ∧ y = 2 then 0 else if x = t ∧ y = 1 then nI (nH c t) else if x = t ∧ y = 0 then nI (nF c t) else aG τ5 23 x y := fun x y => by
    rw [aG_wG, if_neg (by omega), aG_wG, aG_wG, aG_wG]
    simp only [true_and]
  have a24 : ∀ x y, aG (wG (wG (wG (wG τ5 (14 + 9) t 0 (nI (nF c t))) (14 + 9) t 1 (nI (nH c t))) (14 + 9) t 2 0) (14 + 10) t 0 (nI (nAt c t 0))) 24 x y = if x = t ∧ y = 0 then nI (nAt c t 0) else aG τ5 24 x y := fun x y => by
    rw [aG_wG, aG_wG, if_neg (show ¬ (24 = 14 + 9 ∧ x = t ∧ y = 2) by omega), aG_wG, if_neg (show ¬ (24 = 14 + 9 ∧ x = t ∧ y = 1) by omega), aG_wG, if_neg (show ¬ (24 = 14 + 9 ∧ x = t ∧ y = 0) by omega)]
    simp only [true_and]
  generalize wG (wG (wG (wG τ5 (14 + 9) t 0 (nI (nF c t))) (14 + 9) t 1 (nI (nH c t))) (14 + 9) t 2 0) (14 + 10) t 0 (nI (nAt c t 0)) = τ6 at f6 a23 a24 ⊢
  have R6 := R5.fr f6 (by decide) (by decide) rfl
  have B6 := B5.row f6 ht (fun x y hx => by rw [a23, if_neg (by omega), if_neg (by omega), if_neg (by omega)]) (fun x y hx => by rw [a24, if_neg (by omega)])
  have r6 : Pr c t 0 τ6 := ⟨by rw [a23]; simp, by rw [a23]; simp, by rw [a23]; simp; rfl, fun j hj => absurd hj (Nat.not_lt_zero _), fun j hj => by
    obtain rfl : j = 0 := by omega
    rw [a24]; simp⟩
  exact t_76 hP hC ht ht3 hU (nCo c t) 0 FU τ6 (by omega) (by unfold FU; omega) R6 B6 r6 (((((k1.trans k2).trans k3).trans k4).trans k5).up (by decide) (by decide) |>.trans (f6.up (by decide) (by decide)))
end

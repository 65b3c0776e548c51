/-! LINES: rate, place, carrier, band -/
theorem cnt_st {W : Nat → Nat} {τ υ : Sg} {m : List Nat} {j0 v : Nat} (hf : Fr (fF [(14, j0)]) (fA m) τ υ) (h : ∀ j, j ∈ [0, 1, 2, 3, 4, 5, 6, 7, 9] → gI τ 14 j = nI (W j)) (e : gI υ 14 j0 = nI v) : ∀ j, j ∈ [0, 1, 2, 3, 4, 5, 6, 7, 9] → gI υ 14 j = nI (stV W j0 v j) := by
  intro j hj
  unfold stV
  by_cases q : j = j0
  · rw [if_pos q, q]; exact e
  · rw [if_neg q, hf.I 14 j (fF_no (by simp [q]))]; exact h j hj
theorem ln_w {T : Nat → Int32} {n : Nat} {M : List (Nat × Nat)} {c : Nat → Int32} {L : Nat → Nat → Int} {W : Nat → Nat} {τ : Sg} {d : Option (Int32 × Sg)} (h : Ok d (Ln T n M c L W τ)) : Ok (bnd d fun v s => chk (ck01 v) (some (v, s))) (Ln T n M c L W τ) := by
  refine ok_bnd h (fun r υ hu => ?_)
  rw [show ck01 r = true by rw [hu.1]; decide, chk_true]
  exact ok_some.mpr hu
theorem l_endw {T : Nat → Int32} {n : Nat} {M : List (Nat × Nat)} {c : Nat → Int32} {L : Nat → Nat → Int} {W : Nat → Nat} {τ0 τ : Sg} (hR : RdT T n τ ((2, 0) :: M)) (h : Bk c L W τ) (hf : Fr (fF LF) (fA LAs) τ0 τ) : Ok (chk (ckO τ 2 25) (bnd (DX3_takeSemicolon 25 τ) fun v s => chk (ck01 v) (some (v, s)))) (Ln T n M c L (W1 W) τ0) := by
  rw [c_ck hR.fin, chk_true]
  refine ln_w (l_end hR h hf (W' := W1 W) (if_pos rfl) (fun j hj => if_neg hj) (fun υ hu => hu))
theorem rd_lf {τ υ : Sg} (h : Fr (fF RdC) (fA []) τ υ) : Fr (fF LF) (fA LAs) τ υ := h.up (by decide) (by decide)
section
variable {T : Nat → Int32} {n : Nat} {M : List (Nat × Nat)} {c : Nat → Int32} {L : Nat → Nat → Int} {W : Nat → Nat} {τ : Sg}
theorem ds_Place {N : Nat} {L0 : List (Nat × Nat)} (hR : RdT T n τ ((5, 0) :: L0)) (h25 : gR τ 25 1 = 14) (hc : gI τ 14 1 = nI N) (hN : N < 12) : DX3_readLine 25 τ = bnd (DX3_readPlace 25 τ) fun v s => chk (ck01 v) (some (v, s)) := by
  have hF := hR.fin
  have et : gR τ 25 4 = 1005 := hR.tk
  unfold DX3_readLine DX3_readLine_80
  rw [c_ck hF, chk_true, et, show ckV 1005 = true by decide, chk_true, show ckT 1005 = true by decide, chk_true, show inb (nI (1005 - 1000)) 20 = true by decide, chk_true, show (nI (1005 - 1000)).toNatClampNeg = 5 by decide, if_pos (show swm.getD 5 0 = 1 by decide), chk_true, h25, show ckV 14 = true by decide, chk_true, b_ck hF isB14, chk_true, hc, if_neg (show ¬ (12 : Int32) ≤ nI N from fun z => by have := (nI_leI (a := 12) (by decide) (by omega)).mp z; omega), chk_true]
theorem ds_Carrier {N : Nat} {L0 : List (Nat × Nat)} (hR : RdT T n τ ((6, 0) :: L0)) (h25 : gR τ 25 1 = 14) (hc : gI τ 14 2 = nI N) (hN : N < 6) : DX3_readLine 25 τ = bnd (DX3_readCarrier 25 τ) fun v s => chk (ck01 v) (some (v, s)) := by
  have hF := hR.fin
  have et : gR τ 25 4 = 1006 := hR.tk
  unfold DX3_readLine DX3_readLine_105
  rw [c_ck hF, chk_true, et, show ckV 1006 = true by decide, chk_true, show ckT 1006 = true by decide, chk_true, show inb (nI (1006 - 1000)) 20 = true by decide, chk_true, show (nI (1006 - 1000)).toNatClampNeg = 6 by decide, if_neg (show ¬ swm.getD 6 0 = 1 by decide), if_pos (show swm.getD 6 0 = 2 by decide), chk_true, h25, show ckV 14 = true by decide, chk_true, b_ck hF isB14, chk_true, hc, if_neg (show ¬ (6 : Int32) ≤ nI N from fun z => by have := (nI_leI (a := 6) (by decide) (by omega)).mp z; omega), chk_true]
theorem ds_Leg {N : Nat} {L0 : List (Nat × Nat)} (hR : RdT T n τ ((7, 0) :: L0)) (h25 : gR τ 25 1 = 14) (hc : gI τ 14 3 = nI N) (hN : N < 24) : DX3_readLine 25 τ = bnd (DX3_readLeg 25 τ) fun v s => chk (ck01 v) (some (v, s)) := by
  have hF := hR.fin
  have et : gR τ 25 4 = 1007 := hR.tk
  unfold DX3_readLine DX3_readLine_130
  rw [c_ck hF, chk_true, et, show ckV 1007 = true by decide, chk_true, show ckT 1007 = true by decide, chk_true, show inb (nI (1007 - 1000)) 20 = true by decide, chk_true, show (nI (1007 - 1000)).toNatClampNeg = 7 by decide, if_neg (show ¬ swm.getD 7 0 = 1 by decide), if_neg (show ¬ swm.getD 7 0 = 2 by decide), if_pos (show swm.getD 7 0 = 3 by decide), chk_true, h25, show ckV 14 = true by decide, chk_true, b_ck hF isB14, chk_true, hc, if_neg (show ¬ (24 : Int32) ≤ nI N from fun z => by have := (nI_leI (a := 24) (by decide) (by omega)).mp z; omega), chk_true]
theorem ds_Band {N : Nat} {L0 : List (Nat × Nat)} (hR : RdT T n τ ((8, 0) :: L0)) (h25 : gR τ 25 1 = 14) (hc : gI τ 14 4 = nI N) (hN : N < 5) : DX3_readLine 25 τ = bnd (DX3_readBand 25 τ) fun v s => chk (ck01 v) (some (v, s)) := by
  have hF := hR.fin
  have et : gR τ 25 4 = 1008 := hR.tk
  unfold DX3_readLine DX3_readLine_154
  rw [c_ck hF, chk_true, et, show ckV 1008 = true by decide, chk_true, show ckT 1008 = true by decide, chk_true, show inb (nI (1008 - 1000)) 20 = true by decide, chk_true, show (nI (1008 - 1000)).toNatClampNeg = 8 by decide, if_neg (show ¬ swm.getD 8 0 = 1 by decide), if_neg (show ¬ swm.getD 8 0 = 2 by decide), if_neg (show ¬ swm.getD 8 0 = 3 by decide), if_pos (show swm.getD 8 0 = 4 by decide), chk_true, h25, show ckV 14 = true by decide, chk_true, b_ck hF isB14, chk_true, hc, if_neg (show ¬ (5 : Int32) ≤ nI N from fun z => by have := (nI_leI (a := 5) (by decide) (by omega)).mp z; omega), chk_true]
theorem ds_Proviso {N : Nat} {L0 : List (Nat × Nat)} (hR : RdT T n τ ((9, 0) :: L0)) (h25 : gR τ 25 1 = 14) (hc : gI τ 14 5 = nI N) (hN : N < 16) : DX3_readLine 25 τ = bnd (DX3_readProviso 25 τ) fun v s => chk (ck01 v) (some (v, s)) := by
  have hF := hR.fin
  have et : gR τ 25 4 = 1009 := hR.tk
  unfold DX3_readLine DX3_readLine_179
  rw [c_ck hF, chk_true, et, show ckV 1009 = true by decide, chk_true, show ckT 1009 = true by decide, chk_true, show inb (nI (1009 - 1000)) 20 = true by decide, chk_true, show (nI (1009 - 1000)).toNatClampNeg = 9 by decide, if_neg (show ¬ swm.getD 9 0 = 1 by decide), if_neg (show ¬ swm.getD 9 0 = 2 by decide), if_neg (show ¬ swm.getD 9 0 = 3 by decide), if_neg (show ¬ swm.getD 9 0 = 4 by decide), if_pos (show swm.getD 9 0 = 5 by decide), chk_true, h25, show ckV 14 = true by decide, chk_true, b_ck hF isB14, chk_true, hc, if_neg (show ¬ (16 : Int32) ≤ nI N from fun z => by have := (nI_leI (a := 16) (by decide) (by omega)).mp z; omega), chk_true]
theorem ds_Base {N : Nat} {L0 : List (Nat × Nat)} (hR : RdT T n τ ((16, 0) :: L0)) (h25 : gR τ 25 1 = 14) (hc : gI τ 14 6 = nI N) (hN : N < 16) : DX3_readLine 25 τ = bnd (DX3_readBase 25 τ) fun v s => chk (ck01 v) (some (v, s)) := by
  have hF := hR.fin
  have et : gR τ 25 4 = 1016 := hR.tk
  unfold DX3_readLine DX3_readLine_204
  rw [c_ck hF, chk_true, et, show ckV 1016 = true by decide, chk_true, show ckT 1016 = true by decide, chk_true, show inb (nI (1016 - 1000)) 20 = true by decide, chk_true, show (nI (1016 - 1000)).toNatClampNeg = 16 by decide, if_neg (show ¬ swm.getD 16 0 = 1 by decide), if_neg (show ¬ swm.getD 16 0 = 2 by decide), if_neg (show ¬ swm.getD 16 0 = 3 by decide), if_neg (show ¬ swm.getD 16 0 = 4 by decide), if_neg (show ¬ swm.getD 16 0 = 5 by decide), if_pos (show swm.getD 16 0 = 6 by decide), chk_true, h25, show ckV 14 = true by decide, chk_true, b_ck hF isB14, chk_true, hc, if_neg (show ¬ (16 : Int32) ≤ nI N from fun z => by have := (nI_leI (a := 16) (by decide) (by omega)).mp z; omega), chk_true]
theorem ds_Rate {L0 : List (Nat × Nat)} (hR : RdT T n τ ((17, 0) :: L0)) (h25 : gR τ 25 1 = 14) (hc : gI τ 14 8 = 0) : DX3_readLine 25 τ = bnd (DX3_readRate 25 τ) fun v s => chk (ck01 v) (some (v, s)) := by
  have hF := hR.fin
  have et : gR τ 25 4 = 1017 := hR.tk
  unfold DX3_readLine DX3_readLine_227
  rw [c_ck hF, chk_true, et, show ckV 1017 = true by decide, chk_true, show ckT 1017 = true by decide, chk_true, show inb (nI (1017 - 1000)) 20 = true by decide, chk_true, show (nI (1017 - 1000)).toNatClampNeg = 17 by decide, if_neg (show ¬ swm.getD 17 0 = 1 by decide), if_neg (show ¬ swm.getD 17 0 = 2 by decide), if_neg (show ¬ swm.getD 17 0 = 3 by decide), if_neg (show ¬ swm.getD 17 0 = 4 by decide), if_neg (show ¬ swm.getD 17 0 = 5 by decide), if_neg (show ¬ swm.getD 17 0 = 6 by decide), if_pos (show swm.getD 17 0 = 7 by decide), chk_true, h25, show ckV 14 = true by decide, chk_true, b_ck hF isB14, chk_true, hc, if_pos rfl, chk_true]
theorem ds_Ticket {N : Nat} {L0 : List (Nat × Nat)} (hR : RdT T n τ ((18, 0) :: L0)) (h25 : gR τ 25 1 = 14) (hc : gI τ 14 9 = nI N) (hN : N < 8) : DX3_readLine 25 τ = bnd (DX3_readTicket 25 τ) fun v s => chk (ck01 v) (some (v, s)) := by
  have hF := hR.fin
  have et : gR τ 25 4 = 1018 := hR.tk
  unfold DX3_readLine DX3_readLine_252
  rw [c_ck hF, chk_true, et, show ckV 1018 = true by decide, chk_true, show ckT 1018 = true by decide, chk_true, show inb (nI (1018 - 1000)) 20 = true by decide, chk_true, show (nI (1018 - 1000)).toNatClampNeg = 18 by decide, if_neg (show ¬ swm.getD 18 0 = 1 by decide), if_neg (show ¬ swm.getD 18 0 = 2 by decide), if_neg (show ¬ swm.getD 18 0 = 3 by decide), if_neg (show ¬ swm.getD 18 0 = 4 by decide), if_neg (show ¬ swm.getD 18 0 = 5 by decide), if_neg (show ¬ swm.getD 18 0 = 6 by decide), if_neg (show ¬ swm.getD 18 0 = 7 by decide), if_pos (show swm.getD 18 0 = 8 by decide), chk_true, h25, show ckV 14 = true by decide, chk_true, b_ck hF isB14, chk_true, hc, if_neg (show ¬ (8 : Int32) ≤ nI N from fun z => by have := (nI_leI (a := 8) (by decide) (by omega)).mp z; omega), chk_true]
theorem l_Place {p : Nat} (hR : RdT T n τ ((5, 0) :: (4, plN p) :: (2, 0) :: M)) (h : Bk c L W τ) (hW : BW W) (hp : W 1 = p) (hp5 : p < 5) : Ok (DX3_readLine 25 τ) (Ln T n M c L (W1 (stV W 1 (p + 1))) τ) := by
  obtain ⟨w1, w2, w3, w4, w5, w6, w9⟩ := hW
  rw [ds_Place hR h.r (by rw [h.n (by decide), hp]) (by omega)]
  refine ln_w ?_
  have hF := hR.fin
  unfold DX3_readPlace
  rw [c_ck hF, chk_true]
  refine ok_bnd (r_st hR) (fun _ τ1 h1 => ?_)
  obtain ⟨f1, R1⟩ := h1
  have B1 := h.rd f1
  rw [c_ck R1.fin, chk_true]
  refine ok_bnd (r_new R1 isB14 B1.r (B1.n (by decide)) (B1.n (by decide)) (B1.n (by decide)) (by omega) (by omega) (by omega) B1.nm.1 B1.nm.2.1 B1.nm.2.2 (fun j hj => ⟨(nmP (p := j) (q := p) (by omega) (by omega) (by omega)).1, (nmL (by omega)).1⟩) (fun j hj => ⟨fun z => (nmX' (p := p) (q := j) (by omega) (by omega)).1 z.symm, (nmL (by omega)).2.1⟩) (fun j hj => ⟨fun z => (nmX' (p := p) (q := j) (by omega) (by omega)).2.1 z.symm, (nmL (by omega)).2.2⟩) (nmL (by omega)).1) (fun r τ2 h2 => ?_)
  obtain ⟨rfl, f2, R2⟩ := h2
  have B2 := B1.rd f2
  have ea := c_addPlace (x := oJ (plN p)) (k := p) R2.fin isB14 (by rw [B2.n (by decide), hp]) (by omega)
  rw [if_neg (nm_nz ⟨p, by omega⟩).1, c_ck R2.fin, chk_true, B2.r, show ckV 14 = true by decide, chk_true, b_ck R2.fin isB14, chk_true]
  refine ok_bnd_eq ea ?_
  have f3 : Fr (fF [(14, 1)]) (fA [15]) τ2 (pI (wJ τ2 (14 + 1) p (oJ (plN p))) 14 1 (nI (p + 1))) := (Fr.rf.wJ 15 _ _ rfl).pI 14 1 _ rfl
  generalize e3 : pI (wJ τ2 (14 + 1) p (oJ (plN p))) 14 1 (nI (p + 1)) = τ3 at f3 ⊢
  have R3 := R2.fr f3 (by decide) (by decide) rfl
  have ec : gI τ3 14 1 = nI (p + 1) := by rw [← e3, gI_pI, if_pos ⟨rfl, rfl⟩]
  have n3 : Nms τ3 15 (p + 1) plN := fun j hj => by
    rw [← e3, aJ_pI, aJ_wJ]
    by_cases q : j = p
    · rw [if_pos ⟨rfl, q⟩, q]
    · rw [if_neg (fun z => q z.2)]
      exact B2.nm.1 j (by omega)
  refine l_endw R3 (W := stV W 1 (p + 1)) ⟨(f3.R 25 1 rfl).trans B2.r, cnt_st f3 B2.2.1 ec, ⟨n3, B2.nm.2.1.fr f3 rfl, B2.nm.2.2.fr f3 rfl⟩, B2.2.2.2.1.fr f3 rfl rfl, B2.2.2.2.2.1.fr f3 rfl, B2.2.2.2.2.2.1.fr f3 rfl, B2.2.2.2.2.2.2.1.fr f3 rfl, B2.2.2.2.2.2.2.2.fr f3 rfl rfl⟩ ((rd_lf (f1.trans f2)).trans (f3.up (by decide) (by decide)))
theorem l_Carrier {p : Nat} (hR : RdT T n τ ((6, 0) :: (4, caN p) :: (2, 0) :: M)) (h : Bk c L W τ) (hW : BW W) (hp : W 2 = p) (hp5 : p < 4) : Ok (DX3_readLine 25 τ) (Ln T n M c L (W1 (stV W 2 (p + 1))) τ) := by
  obtain ⟨w1, w2, w3, w4, w5, w6, w9⟩ := hW
  rw [ds_Carrier hR h.r (by rw [h.n (by decide), hp]) (by omega)]
  refine ln_w ?_
  have hF := hR.fin
  unfold DX3_readCarrier
  rw [c_ck hF, chk_true]
  refine ok_bnd (r_st hR) (fun _ τ1 h1 => ?_)
  obtain ⟨f1, R1⟩ := h1
  have B1 := h.rd f1
  rw [c_ck R1.fin, chk_true]
  refine ok_bnd (r_new R1 isB14 B1.r (B1.n (by decide)) (B1.n (by decide)) (B1.n (by decide)) (by omega) (by omega) (by omega) B1.nm.1 B1.nm.2.1 B1.nm.2.2 (fun j hj => ⟨(nmX' (p := j) (q := p) (by omega) (by omega)).1, (nmL (by omega)).1⟩) (fun j hj => ⟨(nmP (p := j) (q := p) (by omega) (by omega) (by omega)).2.1, (nmL (by omega)).2.1⟩) (fun j hj => ⟨fun z => (nmX' (p := p) (q := j) (by omega) (by omega)).2.2 z.symm, (nmL (by omega)).2.2⟩) (nmL (by omega)).2.1) (fun r τ2 h2 => ?_)
  obtain ⟨rfl, f2, R2⟩ := h2
  have B2 := B1.rd f2
  have ea := c_addCarrier (x := oJ (caN p)) (k := p) R2.fin isB14 (by rw [B2.n (by decide), hp]) (by omega)
  rw [if_neg (nm_nz ⟨p, by omega⟩).2.1, c_ck R2.fin, chk_true, B2.r, show ckV 14 = true by decide, chk_true, b_ck R2.fin isB14, chk_true]
  refine ok_bnd_eq ea ?_
  have f3 : Fr (fF [(14, 2)]) (fA [16]) τ2 (pI (wJ τ2 (14 + 2) p (oJ (caN p))) 14 2 (nI (p + 1))) := (Fr.rf.wJ 16 _ _ rfl).pI 14 2 _ rfl
  generalize e3 : pI (wJ τ2 (14 + 2) p (oJ (caN p))) 14 2 (nI (p + 1)) = τ3 at f3 ⊢
  have R3 := R2.fr f3 (by decide) (by decide) rfl
  have ec : gI τ3 14 2 = nI (p + 1) := by rw [← e3, gI_pI, if_pos ⟨rfl, rfl⟩]
  have n3 : Nms τ3 16 (p + 1) caN := fun j hj => by
    rw [← e3, aJ_pI, aJ_wJ]
    by_cases q : j = p
    · rw [if_pos ⟨rfl, q⟩, q]
    · rw [if_neg (fun z => q z.2)]
      exact B2.nm.2.1 j (by omega)
  refine l_endw R3 (W := stV W 2 (p + 1)) ⟨(f3.R 25 1 rfl).trans B2.r, cnt_st f3 B2.2.1 ec, ⟨B2.nm.1.fr f3 rfl, n3, B2.nm.2.2.fr f3 rfl⟩, B2.2.2.2.1.fr f3 rfl rfl, B2.2.2.2.2.1.fr f3 rfl, B2.2.2.2.2.2.1.fr f3 rfl, B2.2.2.2.2.2.2.1.fr f3 rfl, B2.2.2.2.2.2.2.2.fr f3 rfl rfl⟩ ((rd_lf (f1.trans f2)).trans (f3.up (by decide) (by decide)))
theorem l_Band {p : Nat} (hR : RdT T n τ ((8, 0) :: (3, nUp c p) :: (3, nWt c p) :: (2, 0) :: M)) (h : Bk c L W τ) (hp : W 4 = p) (hp5 : p < 2) : Ok (DX3_readLine 25 τ) (Ln T n M c L (W1 (stV W 4 (p + 1))) τ) := by
  rw [ds_Band hR h.r (by rw [h.n (by decide), hp]) (by omega)]
  refine ln_w ?_
  have b0 := nUp_b c p
  have b1 := nWt_b c p
  have hF := hR.fin
  unfold DX3_readBand
  rw [c_ck hF, chk_true]
  refine ok_bnd (r_st hR) (fun _ τ1 h1 => ?_)
  obtain ⟨f1, R1⟩ := h1
  have B1 := h.rd f1
  have eb := c_lastBand (k := p) R1.fin isB14 (by rw [B1.n (by decide), hp]) (by omega)
  rw [c_ck R1.fin, chk_true, B1.r, show ckV 14 = true by decide, chk_true, b_ck R1.fin isB14, chk_true]
  refine ok_bnd_eq eb ?_
  have el : ∃ v, (if p = 0 then (0 : Int32) else aG τ1 (14 + 6) (p - 1) 0) + 1 = nI v ∧ v ≤ nUp c p := by
    by_cases q : p = 0
    · rw [if_pos q]
      exact ⟨1, rfl, by omega⟩
    · rw [if_neg q]
      have := (B1.2.2.2.2.1 (p - 1) (by omega)).1
      rw [show aG τ1 (14 + 6) (p - 1) 0 = nI (nUp c (p - 1)) from this]
      refine ⟨nUp c (p - 1) + 1, nI_add _ _, ?_⟩
      unfold nUp
      omega
  obtain ⟨v, ev, hv⟩ := el
  rw [c_ck R1.fin, chk_true, ev]
  refine ok_bnd (r_num (hi := 9999) R1 hv (show nUp c p ≤ 9999 by omega) (by omega)) (fun r τ2 h2 => ?_)
  obtain ⟨rfl, f2, R2⟩ := h2
  have B2 := B1.rd f2
  rw [if_neg (nI_neg (by omega)), c_ck R2.fin, chk_true]
  refine ok_bnd (r_num (lo := 1) (hi := 999) R2 (by omega) (by omega) (by omega)) (fun r τ3 h3 => ?_)
  obtain ⟨rfl, f3, R3⟩ := h3
  have B3 := B2.rd f3
  have ea := c_addBand (x := nI (nUp c p)) (y := nI (nWt c p)) (k := p) R3.fin isB14 (by rw [B3.n (by decide), hp]) (by omega)
  rw [if_neg (nI_neg (by omega)), c_ck R3.fin, chk_true, B3.r, show ckV 14 = true by decide, chk_true, b_ck R3.fin isB14, chk_true]
  refine ok_bnd_eq ea ?_
  have f4 : Fr (fF [(14, 4)]) (fA [20]) τ3 (pI (wG (wG τ3 (14 + 6) p 0 (nI (nUp c p))) (14 + 6) p 1 (nI (nWt c p))) 14 4 (nI (p + 1))) := ((Fr.rf.wG 20 _ _ _ rfl).wG 20 _ _ _ rfl).pI 14 4 _ rfl
  generalize e4 : pI (wG (wG τ3 (14 + 6) p 0 (nI (nUp c p))) (14 + 6) p 1 (nI (nWt c p))) 14 4 (nI (p + 1)) = τ4 at f4 ⊢
  have R4 := R3.fr f4 (by decide) (by decide) rfl
  have ec : gI τ4 14 4 = nI (p + 1) := by rw [← e4, gI_pI, if_pos ⟨rfl, rfl⟩]
  have n4 : Pb c (p + 1) τ4 := fun i hi => by
    rw [← e4, aG_pI, aG_pI, aG_wG, aG_wG, aG_wG, aG_wG]
    by_cases q : i = p
    · subst q
      exact ⟨by rw [if_neg (by omega), if_pos ⟨rfl, rfl, rfl⟩], by rw [if_pos ⟨rfl, rfl, rfl⟩]⟩
    · rw [if_neg (fun z => q z.2.1), if_neg (fun z => q z.2.1), if_neg (fun z => q z.2.1), if_neg (fun z => q z.2.1)]
      exact B3.2.2.2.2.1 i (by omega)
  refine l_endw R4 (W := stV W 4 (p + 1)) ⟨(f4.R 25 1 rfl).trans B3.r, cnt_st f4 B3.2.1 ec, B3.nm.fr f4 rfl rfl rfl, B3.2.2.2.1.fr f4 rfl rfl, n4, B3.2.2.2.2.2.1.fr f4 rfl, B3.2.2.2.2.2.2.1.fr f4 rfl, B3.2.2.2.2.2.2.2.fr f4 rfl rfl⟩ ((rd_lf ((f1.trans f2).trans f3)).trans (f4.up (by decide) (by decide)))
theorem l_Rate {v : Nat} (hR : RdT T n τ ((17, 0) :: (3, v) :: (2, 0) :: M)) (h : Bk c L W τ) (h8 : gI τ 14 8 = 0) (hv : 1 ≤ v) (hv2 : v ≤ 40) : Ok (DX3_readLine 25 τ) (Ln T n M c L (W1 (stV W 7 v)) τ) := by
  rw [ds_Rate hR h.r h8]
  refine ln_w ?_
  have hF := hR.fin
  unfold DX3_readRate
  rw [c_ck hF, chk_true]
  refine ok_bnd (r_st hR) (fun _ τ1 h1 => ?_)
  obtain ⟨f1, R1⟩ := h1
  have B1 := h.rd f1
  rw [c_ck R1.fin, chk_true]
  refine ok_bnd (r_num (lo := 1) (hi := 99) R1 (by omega) (by omega) (by omega)) (fun r τ2 h2 => ?_)
  obtain ⟨rfl, f2, R2⟩ := h2
  have B2 := B1.rd f2
  have f3 : Fr (fF [(14, 7)]) (fA []) τ2 (pI τ2 14 7 (nI v)) := Fr.rf.pI 14 7 _ rfl
  have F3 := f3.fin R2.fin (by decide)
  have f4 : Fr (fF [(14, 7), (14, 8)]) (fA []) τ2 (pI (pI τ2 14 7 (nI v)) 14 8 1) := (Fr.rf.pI 14 7 _ rfl).pI 14 8 _ rfl
  rw [if_neg (nI_neg (by omega)), c_ck R2.fin, chk_true, B2.r, show ckV 14 = true by decide, chk_true, b_ck R2.fin isB14, chk_true, wlet_eq, c_ck F3, chk_true, show gR (pI τ2 14 7 (nI v)) 25 1 = 14 from B2.r, show ckV 14 = true by decide, chk_true, b_ck F3 isB14, chk_true, show ck01 (1 : Int32) = true by decide, chk_true, wlet_eq]
  generalize e4 : pI (pI τ2 14 7 (nI v)) 14 8 1 = τ4 at f4 ⊢
  have R4 := R2.fr f4 (by decide) (by decide) rfl
  refine l_endw R4 (W := stV W 7 v) ⟨(f4.R 25 1 rfl).trans B2.r, fun j hj => ?_, B2.nm.fr f4 rfl rfl rfl, B2.2.2.2.1.fr f4 rfl rfl, B2.2.2.2.2.1.fr f4 rfl, B2.2.2.2.2.2.1.fr f4 rfl, B2.2.2.2.2.2.2.1.fr f4 rfl, B2.2.2.2.2.2.2.2.fr f4 rfl rfl⟩ ((rd_lf (f1.trans f2)).trans (f4.up (by decide) (by decide)))
  unfold stV
  by_cases q : j = 7
  · rw [if_pos q, q, ← e4, gI_pI, if_neg (by omega), gI_pI, if_pos ⟨rfl, rfl⟩]
  · rw [if_neg q, f4.I 14 j (fF_no (by
      have : j ≠ 8 := fun z => by rw [z] at hj; exact absurd hj (by decide)
      simp [q, this]))]
    exact B2.n hj
end

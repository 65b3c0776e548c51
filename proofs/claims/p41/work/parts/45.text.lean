/-! THE LAW'S TEXT, line by line -/
theorem Bd.wk {σ0 σ : Sg} {a k j : Nat} {t : List Nat} (h : Bd σ0 σ a t k) (hk : k ≤ j) : Bd σ0 σ a t j := ⟨h.1.wk hk, h.2⟩
theorem lnRt_len {c : Nat → Int32} {p : Nat} : (lnRt c).length ≤ 10 := by
  have d0 := dgs_le (v := nRt c)
  unfold lnRt
  simp only [List.length_append, pll, cal, txl_0, txl_3, txl_4, txl_5, txl_6, txl_7, txl_8, txl_9, txl_10, txl_11, txl_12, txl_13, txl_14, txl_15, txl_16]
  omega
theorem lnPl_len {c : Nat → Int32} {p : Nat} : (lnPl p).length ≤ 9 := by
  unfold lnPl
  simp only [List.length_append, pll, cal, txl_0, txl_3, txl_4, txl_5, txl_6, txl_7, txl_8, txl_9, txl_10, txl_11, txl_12, txl_13, txl_14, txl_15, txl_16]
  omega
theorem lnCa_len {c : Nat → Int32} {p : Nat} : (lnCa p).length ≤ 11 := by
  unfold lnCa
  simp only [List.length_append, pll, cal, txl_0, txl_3, txl_4, txl_5, txl_6, txl_7, txl_8, txl_9, txl_10, txl_11, txl_12, txl_13, txl_14, txl_15, txl_16]
  omega
theorem lnLg_len {c : Nat → Int32} {p : Nat} : (lnLg c p).length ≤ 15 := by
  have d0 := dgs_le (v := nLg c p)
  unfold lnLg
  simp only [List.length_append, pll, cal, txl_0, txl_3, txl_4, txl_5, txl_6, txl_7, txl_8, txl_9, txl_10, txl_11, txl_12, txl_13, txl_14, txl_15, txl_16]
  omega
theorem lnRg_len {c : Nat → Int32} {p : Nat} : (lnRg c).length ≤ 15 := by
  have d0 := dgs_le (v := nRg c)
  unfold lnRg
  simp only [List.length_append, pll, cal, txl_0, txl_3, txl_4, txl_5, txl_6, txl_7, txl_8, txl_9, txl_10, txl_11, txl_12, txl_13, txl_14, txl_15, txl_16]
  omega
theorem lnBd_len {c : Nat → Int32} {p : Nat} : (lnBd c p).length ≤ 15 := by
  have d0 := dgs_le (v := nUp c p)
  have d1 := dgs_le (v := nWt c p)
  unfold lnBd
  simp only [List.length_append, pll, cal, txl_0, txl_3, txl_4, txl_5, txl_6, txl_7, txl_8, txl_9, txl_10, txl_11, txl_12, txl_13, txl_14, txl_15, txl_16]
  omega
theorem lnPrA_len {c : Nat → Int32} {p : Nat} : (lnPrA c p).length ≤ 7 := by
  unfold lnPrA
  split <;> simp only [List.length_append, pll, cal, txl_0, txl_3, txl_4, txl_5, txl_6, txl_7, txl_8, txl_9, txl_10, txl_11, txl_12, txl_13, txl_14, txl_15, txl_16] <;> omega
theorem lnPrW_len {c : Nat → Int32} {p : Nat} : (lnPrW c p).length ≤ 8 := by
  unfold lnPrW
  split <;> simp only [List.length_append, pll, cal, txl_0, txl_3, txl_4, txl_5, txl_6, txl_7, txl_8, txl_9, txl_10, txl_11, txl_12, txl_13, txl_14, txl_15, txl_16] <;> omega
theorem lnPr_len {c : Nat → Int32} {p : Nat} : (lnPr c p).length ≤ 37 := by
  have d0 := dgs_le (v := pV c p)
  have d1 := lnPrA_len (c := c) (p := p)
  have d2 := lnPrW_len (c := c) (p := p)
  have d3 := txl_k ⟨pK c p, by have := pK_b c p; omega⟩
  simp only at d3
  unfold lnPr
  simp only [List.length_append, pll, cal, txl_0, txl_3, txl_4, txl_5, txl_6, txl_7, txl_8, txl_9, txl_10, txl_11, txl_12, txl_13, txl_14, txl_15, txl_16]
  omega
theorem lnBs_len {c : Nat → Int32} {p : Nat} : (lnBs c p).length ≤ 19 := by
  have d0 := dgs_le (v := bV c p)
  unfold lnBs
  split
  · simp only [List.length_append, pll, cal, txl_0, txl_3, txl_4, txl_5, txl_6, txl_7, txl_8, txl_9, txl_10, txl_11, txl_12, txl_13, txl_14, txl_15, txl_16]
    omega
  · simp
theorem lnCo_len {c : Nat → Int32} {t p : Nat} : (lnCo c t p).length ≤ 6 := by
  unfold lnCo
  simp only [List.length_append, pll, cal, txl_0, txl_3, txl_4, txl_5, txl_6, txl_7, txl_8, txl_9, txl_10, txl_11, txl_12, txl_13, txl_14, txl_15, txl_16]
  omega
theorem lnTh_len {c : Nat → Int32} {t : Nat} : (lnTh c t).length ≤ 23 := by
  have d0 := dgs_le (v := nF c t)
  unfold lnTh
  split <;> simp only [List.length_append, List.length_cons, List.length_nil, pll, cal, txl_0, txl_3, txl_4, txl_5, txl_6, txl_7, txl_8, txl_9, txl_10, txl_11, txl_12, txl_13, txl_14, txl_15, txl_16] <;> omega
theorem lnTk_len {c : Nat → Int32} {t : Nat} : (lnTk c t).length ≤ 54 := by
  have d0 := lnTh_len (c := c) (t := t)
  have d1 := fm_len (f := lnCo c t) (b := 6) (fun _ => lnCo_len) (nCo c t) 0
  have d2 := nCo_b c t
  unfold lnTk
  simp only [List.length_append, txl_4]
  omega
theorem t_rate {Q : Nat → Sg → Prop} {c : Nat → Int32} {σ : Sg} (hW : WT c σ) (hQ : ∀ τ y, G1 (fun _ => False) σ τ 40 → StI τ y (lnRt c) → Ok (DL_text_30 FU 1024 y (nI 0) τ) Q) : Ok (DL_text 1024 σ) Q := by
  have b0 := nRt_b c
  have d0 := dgs_le (v := nRt c)
  unfold DL_text DL_text_3
  refine okN hW.2 (fun τ h => ?_)
  unfold DL_text_7
  refine okL (i := 3) hW h (by decide) (by simp only [List.length_append, List.length_nil, List.length_cons, pll, cal, txl_0, txl_3, txl_4, txl_5, txl_6, txl_7, txl_8, txl_9, txl_10, txl_11, txl_12, txl_13, txl_14, txl_15, txl_16]; omega) (fun τ h => ?_)
  unfold DL_text_12
  refine ok_bnd_eq (n_rate (hW.f h.1).sc) ?_
  refine okI hW h (by omega) (by simp only [List.length_append, List.length_nil, List.length_cons, pll, cal, txl_0, txl_3, txl_4, txl_5, txl_6, txl_7, txl_8, txl_9, txl_10, txl_11, txl_12, txl_13, txl_14, txl_15, txl_16]; omega) (fun τ h => ?_)
  unfold DL_text_19
  refine okL (i := 4) hW h (by decide) (by simp only [List.length_append, List.length_nil, List.length_cons, pll, cal, txl_0, txl_3, txl_4, txl_5, txl_6, txl_7, txl_8, txl_9, txl_10, txl_11, txl_12, txl_13, txl_14, txl_15, txl_16]; omega) (fun τ h => ?_)
  unfold DL_text_24
  refine okT h (fun τ y g e => ?_)
  unfold DL_text_27
  exact hQ τ y (g.wk (by omega)) (by unfold lnRt; simpa only [List.append_assoc, List.nil_append] using e)
theorem t_pl {K30 : Nat → Nat → Int32 → Sg → Option (Nat × Sg)} {Q : Nat → Sg → Prop} {c : Nat → Int32} {σ : Sg} {x p : Nat} {t : List Nat} (hW : WT c σ) (hx : StI σ x t) (hl : t.length ≤ 650) (hp : p < 30) (hQ : ∀ τ y, G1 (fun _ => False) σ τ 40 → StI τ y (t ++ lnPl p) → Ok (K30 1024 y (nI (p + 1)) τ) Q) :
    Ok (chk (ck51 σ) (wlet (mkD σ 1 8 4) fun υ => DL_text_41 K30 1024 x (nI p) (2000 + gM σ) υ)) Q := by
  unfold DL_text_41
  refine okN hW.2 (fun τ h => ?_)
  unfold DL_text_45
  refine okS h (hx.f h.1) (by simp only [List.length_append, List.length_nil, List.length_cons, pll, cal, txl_0, txl_3, txl_4, txl_5, txl_6, txl_7, txl_8, txl_9, txl_10, txl_11, txl_12, txl_13, txl_14, txl_15, txl_16]; omega) (fun τ h => ?_)
  unfold DL_text_49
  refine okL (i := 5) hW h (by decide) (by simp only [List.length_append, List.length_nil, List.length_cons, pll, cal, txl_0, txl_3, txl_4, txl_5, txl_6, txl_7, txl_8, txl_9, txl_10, txl_11, txl_12, txl_13, txl_14, txl_15, txl_16]; omega) (fun τ h => ?_)
  unfold DL_text_54
  refine okP (p := p) hW h (by omega) (fun τ y h e => ?_)
  unfold DL_text_58
  refine okS h e (by simp only [List.length_append, List.length_nil, List.length_cons, pll, cal, txl_0, txl_3, txl_4, txl_5, txl_6, txl_7, txl_8, txl_9, txl_10, txl_11, txl_12, txl_13, txl_14, txl_15, txl_16]; omega) (fun τ h => ?_)
  unfold DL_text_61
  refine okL (i := 4) hW h (by decide) (by simp only [List.length_append, List.length_nil, List.length_cons, pll, cal, txl_0, txl_3, txl_4, txl_5, txl_6, txl_7, txl_8, txl_9, txl_10, txl_11, txl_12, txl_13, txl_14, txl_15, txl_16]; omega) (fun τ h => ?_)
  unfold DL_text_66
  refine okT h (fun τ y g e => ?_)
  unfold DL_text_69
  rw [show nI p + (1 : Int32) = nI (p + 1) from nI_add _ _]
  exact hQ τ y (g.wk (by omega)) (by unfold lnPl; simpa only [List.append_assoc, List.nil_append] using e)
theorem t_ca {K78 : Nat → Nat → Int32 → Sg → Option (Nat × Sg)} {Q : Nat → Sg → Prop} {c : Nat → Int32} {σ : Sg} {x p : Nat} {t : List Nat} (hW : WT c σ) (hx : StI σ x t) (hl : t.length ≤ 650) (hp : p < 30) (hQ : ∀ τ y, G1 (fun _ => False) σ τ 40 → StI τ y (t ++ lnCa p) → Ok (K78 1024 y (nI (p + 1)) τ) Q) :
    Ok (chk (ck51 σ) (wlet (mkD σ 1 8 4) fun υ => DL_text_89 K78 1024 x (nI p) (2000 + gM σ) υ)) Q := by
  unfold DL_text_89
  refine okN hW.2 (fun τ h => ?_)
  unfold DL_text_93
  refine okS h (hx.f h.1) (by simp only [List.length_append, List.length_nil, List.length_cons, pll, cal, txl_0, txl_3, txl_4, txl_5, txl_6, txl_7, txl_8, txl_9, txl_10, txl_11, txl_12, txl_13, txl_14, txl_15, txl_16]; omega) (fun τ h => ?_)
  unfold DL_text_97
  refine okL (i := 6) hW h (by decide) (by simp only [List.length_append, List.length_nil, List.length_cons, pll, cal, txl_0, txl_3, txl_4, txl_5, txl_6, txl_7, txl_8, txl_9, txl_10, txl_11, txl_12, txl_13, txl_14, txl_15, txl_16]; omega) (fun τ h => ?_)
  unfold DL_text_102
  refine okO (p := p) hW h (by omega) (fun τ y h e => ?_)
  unfold DL_text_106
  refine okS h e (by simp only [List.length_append, List.length_nil, List.length_cons, pll, cal, txl_0, txl_3, txl_4, txl_5, txl_6, txl_7, txl_8, txl_9, txl_10, txl_11, txl_12, txl_13, txl_14, txl_15, txl_16]; omega) (fun τ h => ?_)
  unfold DL_text_109
  refine okL (i := 4) hW h (by decide) (by simp only [List.length_append, List.length_nil, List.length_cons, pll, cal, txl_0, txl_3, txl_4, txl_5, txl_6, txl_7, txl_8, txl_9, txl_10, txl_11, txl_12, txl_13, txl_14, txl_15, txl_16]; omega) (fun τ h => ?_)
  unfold DL_text_114
  refine okT h (fun τ y g e => ?_)
  unfold DL_text_117
  rw [show nI p + (1 : Int32) = nI (p + 1) from nI_add _ _]
  exact hQ τ y (g.wk (by omega)) (by unfold lnCa; simpa only [List.append_assoc, List.nil_append] using e)
theorem t_lg {K126 : Nat → Nat → Int32 → Sg → Option (Nat × Sg)} {Q : Nat → Sg → Prop} {c : Nat → Int32} {σ : Sg} {x p : Nat} {t : List Nat} (hW : WT c σ) (hx : StI σ x t) (hl : t.length ≤ 650) (hp : p < 28) (hQ : ∀ τ y, G1 (fun _ => False) σ τ 40 → StI τ y (t ++ lnLg c p) → Ok (K126 1024 y (nI (p + 1)) τ) Q) :
    Ok (chk (ck51 σ) (wlet (mkD σ 1 8 4) fun υ => DL_text_139 K126 1024 x (nI p) (2000 + gM σ) υ)) Q := by
  have b0 := nLg_b c p
  have d_0 := dgs_le (v := nLg c p)
  unfold DL_text_139
  refine okN hW.2 (fun τ h => ?_)
  unfold DL_text_143
  refine okS h (hx.f h.1) (by simp only [List.length_append, List.length_nil, List.length_cons, pll, cal, txl_0, txl_3, txl_4, txl_5, txl_6, txl_7, txl_8, txl_9, txl_10, txl_11, txl_12, txl_13, txl_14, txl_15, txl_16]; omega) (fun τ h => ?_)
  unfold DL_text_147
  refine okL (i := 7) hW h (by decide) (by simp only [List.length_append, List.length_nil, List.length_cons, pll, cal, txl_0, txl_3, txl_4, txl_5, txl_6, txl_7, txl_8, txl_9, txl_10, txl_11, txl_12, txl_13, txl_14, txl_15, txl_16]; omega) (fun τ h => ?_)
  unfold DL_text_152
  refine okP (p := p) hW h (by omega) (fun τ y h e => ?_)
  unfold DL_text_156
  refine okS h e (by simp only [List.length_append, List.length_nil, List.length_cons, pll, cal, txl_0, txl_3, txl_4, txl_5, txl_6, txl_7, txl_8, txl_9, txl_10, txl_11, txl_12, txl_13, txl_14, txl_15, txl_16]; omega) (fun τ h => ?_)
  unfold DL_text_159
  refine okL (i := 0) hW h (by decide) (by simp only [List.length_append, List.length_nil, List.length_cons, pll, cal, txl_0, txl_3, txl_4, txl_5, txl_6, txl_7, txl_8, txl_9, txl_10, txl_11, txl_12, txl_13, txl_14, txl_15, txl_16]; omega) (fun τ h => ?_)
  unfold DL_text_164
  rw [show nI p + (1 : Int32) = nI (p + 1) from nI_add _ _]
  refine okP (p := p + 1) hW h (by omega) (fun τ y h e => ?_)
  unfold DL_text_170
  refine okS h e (by simp only [List.length_append, List.length_nil, List.length_cons, pll, cal, txl_0, txl_3, txl_4, txl_5, txl_6, txl_7, txl_8, txl_9, txl_10, txl_11, txl_12, txl_13, txl_14, txl_15, txl_16]; omega) (fun τ h => ?_)
  unfold DL_text_173
  refine okL (i := 0) hW h (by decide) (by simp only [List.length_append, List.length_nil, List.length_cons, pll, cal, txl_0, txl_3, txl_4, txl_5, txl_6, txl_7, txl_8, txl_9, txl_10, txl_11, txl_12, txl_13, txl_14, txl_15, txl_16]; omega) (fun τ h => ?_)
  unfold DL_text_178
  refine ok_bnd_eq (n_leg (hW.f h.1).sc p) ?_
  refine okI hW h (by omega) (by simp only [List.length_append, List.length_nil, List.length_cons, pll, cal, txl_0, txl_3, txl_4, txl_5, txl_6, txl_7, txl_8, txl_9, txl_10, txl_11, txl_12, txl_13, txl_14, txl_15, txl_16]; omega) (fun τ h => ?_)
  unfold DL_text_186
  refine okL (i := 4) hW h (by decide) (by simp only [List.length_append, List.length_nil, List.length_cons, pll, cal, txl_0, txl_3, txl_4, txl_5, txl_6, txl_7, txl_8, txl_9, txl_10, txl_11, txl_12, txl_13, txl_14, txl_15, txl_16]; omega) (fun τ h => ?_)
  unfold DL_text_191
  refine okT h (fun τ y g e => ?_)
  unfold DL_text_194
  rw [show nI p + (1 : Int32) = nI (p + 1) from nI_add _ _]
  exact hQ τ y (g.wk (by omega)) (by unfold lnLg; simpa only [List.append_assoc, List.nil_append] using e)
theorem t_rg {Q : Nat → Sg → Prop} {c : Nat → Int32} {σ : Sg} {x : Nat} {t : List Nat} (hW : WT c σ) (hx : StI σ x t) (hl : t.length ≤ 650) (hQ : ∀ τ y, G1 (fun _ => False) σ τ 40 → StI τ y (t ++ (if nRg c = 0 then [] else lnRg c)) → Ok (DL_text_271 FU 1024 y (nI 0) τ) Q) : Ok (DL_text_201 1024 x σ) Q := by
  have b0 := nRg_b c
  have b1 := nPl_b c
  have d0 := dgs_le (v := nRg c)
  unfold DL_text_201
  refine ok_bnd_eq (n_ring hW.sc) ?_
  by_cases q : nRg c = 0
  · rw [if_pos (show nI (nRg c) ≤ 0 from (nI_leI (b := 0) (by omega) (by decide)).mpr (by omega))]
    unfold DL_text_269
    refine hQ σ x (G1.rf.wk (by omega)) ?_
    rw [if_pos q, List.append_nil]
    exact hx
  · rw [if_neg (show ¬ nI (nRg c) ≤ 0 from fun z => by have := (nI_leI (b := 0) (by omega) (by decide)).mp z; omega)]
    rw [if_neg q] at hQ
    unfold DL_text_211
    refine okN hW.2 (fun τ h => ?_)
    unfold DL_text_215
    refine okS h (hx.f h.1) (by simp only [List.length_append, List.length_nil, List.length_cons, pll, cal, txl_0, txl_3, txl_4, txl_5, txl_6, txl_7, txl_8, txl_9, txl_10, txl_11, txl_12, txl_13, txl_14, txl_15, txl_16]; omega) (fun τ h => ?_)
    unfold DL_text_219
    refine okL (i := 7) hW h (by decide) (by simp only [List.length_append, List.length_nil, List.length_cons, pll, cal, txl_0, txl_3, txl_4, txl_5, txl_6, txl_7, txl_8, txl_9, txl_10, txl_11, txl_12, txl_13, txl_14, txl_15, txl_16]; omega) (fun τ h => ?_)
    unfold DL_text_224
    refine ok_bnd_eq (n_places (hW.f h.1).sc) ?_
    rw [show nI (nPl c) - (1 : Int32) = nI (nPl c - 1) from pk_sub (b := 1) (by omega)]
    refine okP (p := nPl c - 1) hW h (by omega) (fun τ y h e => ?_)
    unfold DL_text_233
    refine okS h e (by simp only [List.length_append, List.length_nil, List.length_cons, pll, cal, txl_0, txl_3, txl_4, txl_5, txl_6, txl_7, txl_8, txl_9, txl_10, txl_11, txl_12, txl_13, txl_14, txl_15, txl_16]; omega) (fun τ h => ?_)
    unfold DL_text_236
    refine okL (i := 0) hW h (by decide) (by simp only [List.length_append, List.length_nil, List.length_cons, pll, cal, txl_0, txl_3, txl_4, txl_5, txl_6, txl_7, txl_8, txl_9, txl_10, txl_11, txl_12, txl_13, txl_14, txl_15, txl_16]; omega) (fun τ h => ?_)
    unfold DL_text_241
    refine okP (p := 0) hW h (by omega) (fun τ y h e => ?_)
    unfold DL_text_245
    refine okS h e (by simp only [List.length_append, List.length_nil, List.length_cons, pll, cal, txl_0, txl_3, txl_4, txl_5, txl_6, txl_7, txl_8, txl_9, txl_10, txl_11, txl_12, txl_13, txl_14, txl_15, txl_16]; omega) (fun τ h => ?_)
    unfold DL_text_248
    refine okL (i := 0) hW h (by decide) (by simp only [List.length_append, List.length_nil, List.length_cons, pll, cal, txl_0, txl_3, txl_4, txl_5, txl_6, txl_7, txl_8, txl_9, txl_10, txl_11, txl_12, txl_13, txl_14, txl_15, txl_16]; omega) (fun τ h => ?_)
    unfold DL_text_253
    refine ok_bnd_eq (n_ring (hW.f h.1).sc) ?_
    refine okI hW h (by omega) (by simp only [List.length_append, List.length_nil, List.length_cons, pll, cal, txl_0, txl_3, txl_4, txl_5, txl_6, txl_7, txl_8, txl_9, txl_10, txl_11, txl_12, txl_13, txl_14, txl_15, txl_16]; omega) (fun τ h => ?_)
    unfold DL_text_260
    refine okL (i := 4) hW h (by decide) (by simp only [List.length_append, List.length_nil, List.length_cons, pll, cal, txl_0, txl_3, txl_4, txl_5, txl_6, txl_7, txl_8, txl_9, txl_10, txl_11, txl_12, txl_13, txl_14, txl_15, txl_16]; omega) (fun τ h => ?_)
    unfold DL_text_265
    refine okT h (fun τ y g e => ?_)
    unfold DL_text_268 DL_text_269
    exact hQ τ y (g.wk (by omega)) (by unfold lnRg; simpa only [List.append_assoc, List.nil_append] using e)
theorem t_bd {K271 : Nat → Nat → Int32 → Sg → Option (Nat × Sg)} {Q : Nat → Sg → Prop} {c : Nat → Int32} {σ : Sg} {x p : Nat} {t : List Nat} (hW : WT c σ) (hx : StI σ x t) (hl : t.length ≤ 650) (hp : p < 30) (hQ : ∀ τ y, G1 (fun _ => False) σ τ 40 → StI τ y (t ++ lnBd c p) → Ok (K271 1024 y (nI (p + 1)) τ) Q) :
    Ok (chk (ck51 σ) (wlet (mkD σ 1 8 4) fun υ => DL_text_282 K271 1024 x (nI p) (2000 + gM σ) υ)) Q := by
  have b0 := nUp_b c p
  have b1 := nWt_b c p
  have d_0 := dgs_le (v := nUp c p)
  have d_1 := dgs_le (v := nWt c p)
  unfold DL_text_282
  refine okN hW.2 (fun τ h => ?_)
  unfold DL_text_286
  refine okS h (hx.f h.1) (by simp only [List.length_append, List.length_nil, List.length_cons, pll, cal, txl_0, txl_3, txl_4, txl_5, txl_6, txl_7, txl_8, txl_9, txl_10, txl_11, txl_12, txl_13, txl_14, txl_15, txl_16]; omega) (fun τ h => ?_)
  unfold DL_text_290
  refine okL (i := 8) hW h (by decide) (by simp only [List.length_append, List.length_nil, List.length_cons, pll, cal, txl_0, txl_3, txl_4, txl_5, txl_6, txl_7, txl_8, txl_9, txl_10, txl_11, txl_12, txl_13, txl_14, txl_15, txl_16]; omega) (fun τ h => ?_)
  unfold DL_text_295
  refine ok_bnd_eq (n_upTo (hW.f h.1).sc p) ?_
  refine okI hW h (by omega) (by simp only [List.length_append, List.length_nil, List.length_cons, pll, cal, txl_0, txl_3, txl_4, txl_5, txl_6, txl_7, txl_8, txl_9, txl_10, txl_11, txl_12, txl_13, txl_14, txl_15, txl_16]; omega) (fun τ h => ?_)
  unfold DL_text_303
  refine okL (i := 0) hW h (by decide) (by simp only [List.length_append, List.length_nil, List.length_cons, pll, cal, txl_0, txl_3, txl_4, txl_5, txl_6, txl_7, txl_8, txl_9, txl_10, txl_11, txl_12, txl_13, txl_14, txl_15, txl_16]; omega) (fun τ h => ?_)
  unfold DL_text_308
  refine ok_bnd_eq (n_weight (hW.f h.1).sc p) ?_
  refine okI hW h (by omega) (by simp only [List.length_append, List.length_nil, List.length_cons, pll, cal, txl_0, txl_3, txl_4, txl_5, txl_6, txl_7, txl_8, txl_9, txl_10, txl_11, txl_12, txl_13, txl_14, txl_15, txl_16]; omega) (fun τ h => ?_)
  unfold DL_text_316
  refine okL (i := 4) hW h (by decide) (by simp only [List.length_append, List.length_nil, List.length_cons, pll, cal, txl_0, txl_3, txl_4, txl_5, txl_6, txl_7, txl_8, txl_9, txl_10, txl_11, txl_12, txl_13, txl_14, txl_15, txl_16]; omega) (fun τ h => ?_)
  unfold DL_text_321
  refine okT h (fun τ y g e => ?_)
  unfold DL_text_324
  rw [show nI p + (1 : Int32) = nI (p + 1) from nI_add _ _]
  exact hQ τ y (g.wk (by omega)) (by unfold lnBd; simpa only [List.append_assoc, List.nil_append] using e)
theorem t_prA {K333 : Nat → Nat → Int32 → Sg → Option (Nat × Sg)} {Q : Nat → Sg → Prop} {c : Nat → Int32} {σ0 σ : Sg} {a p k : Nat} {t : List Nat} (hW : WT c σ0) (hB : Bd σ0 σ a t k) (hl : t.length ≤ 780) (hp : p < 30) (hQ : ∀ τ, Bd σ0 τ a (t ++ lnPrA c p) (k + 40) → Ok (DL_text_435 K333 1024 (nI p) a τ) Q) : Ok (DL_text_369 K333 1024 (nI p) a σ) Q := by
  have b0 := pX_b c p
  have b1 := pY_b c p
  have b2 := nPl_b c
  unfold DL_text_369
  refine ok_bnd_eq (n_pro (hW.f hB.1).sc p (by omega)).2.1 ?_
  unfold lnPrA at hQ
  by_cases q : pA c p = true
  · rw [if_pos q] at hQ ⊢
    rw [if_neg (by decide)]
    unfold DL_text_432
    exact okL (i := 10) hW hB (by decide) (by rw [txl_10]; omega) (fun τ h => hQ τ (h.wk (by omega)))
  · rw [if_neg q] at hQ ⊢
    rw [if_pos (show (0 : Int32) ≤ nI (pX c p) from nI_pos' (by omega))]
    have hW0 := hW
    have hW := hW.f hB.1
    unfold DL_text_386
    refine okN hW.2 (fun τ h => ?_)
    unfold DL_text_390
    refine okL (i := 0) hW h (by decide) (by simp only [List.length_append, List.length_nil, List.length_cons, pll, cal, txl_0, txl_3, txl_4, txl_5, txl_6, txl_7, txl_8, txl_9, txl_10, txl_11, txl_12, txl_13, txl_14, txl_15, txl_16]; omega) (fun τ h => ?_)
    unfold DL_text_395
    refine ok_bnd_eq ((n_pro (hW.f h.1).sc p (by omega)).2.1) ?_
    rw [if_neg q]
    refine okP (p := pX c p) hW h (by omega) (fun τ y h e => ?_)
    unfold DL_text_404
    refine okS h e (by simp only [List.length_append, List.length_nil, List.length_cons, pll, cal, txl_0, txl_3, txl_4, txl_5, txl_6, txl_7, txl_8, txl_9, txl_10, txl_11, txl_12, txl_13, txl_14, txl_15, txl_16]; omega) (fun τ h => ?_)
    unfold DL_text_407
    refine okL (i := 0) hW h (by decide) (by simp only [List.length_append, List.length_nil, List.length_cons, pll, cal, txl_0, txl_3, txl_4, txl_5, txl_6, txl_7, txl_8, txl_9, txl_10, txl_11, txl_12, txl_13, txl_14, txl_15, txl_16]; omega) (fun τ h => ?_)
    unfold DL_text_412
    refine ok_bnd_eq ((n_pro (hW.f h.1).sc p (by omega)).2.2.1) ?_
    rw [if_neg q]
    refine okP (p := pY c p) hW h (by omega) (fun τ y h e => ?_)
    unfold DL_text_421
    refine okS h e (by simp only [List.length_append, List.length_nil, List.length_cons, pll, cal, txl_0, txl_3, txl_4, txl_5, txl_6, txl_7, txl_8, txl_9, txl_10, txl_11, txl_12, txl_13, txl_14, txl_15, txl_16]; omega) (fun τ h => ?_)
    unfold DL_text_424
    refine okL (i := 0) hW h (by decide) (by simp only [List.length_append, List.length_nil, List.length_cons, pll, cal, txl_0, txl_3, txl_4, txl_5, txl_6, txl_7, txl_8, txl_9, txl_10, txl_11, txl_12, txl_13, txl_14, txl_15, txl_16]; omega) (fun τ h => ?_)
    unfold DL_text_429
    refine okT h (fun τ y g e => ?_)
    unfold DL_text_432
    refine okS (hB.call g) e (by simp only [List.length_append, List.length_nil, List.length_cons, pll, cal, txl_0, txl_3, txl_4, txl_5, txl_6, txl_7, txl_8, txl_9, txl_10, txl_11, txl_12, txl_13, txl_14, txl_15, txl_16]; omega) (fun τ h => hQ τ ?_)
    refine Bd.wk (j := k + 40) ?_ (Nat.le_refl _)
    have h2 := h.wk (j := k + 40) (by omega)
    simpa only [List.append_assoc, List.nil_append] using h2
theorem t_prW {K333 : Nat → Nat → Int32 → Sg → Option (Nat × Sg)} {Q : Nat → Sg → Prop} {c : Nat → Int32} {σ0 σ : Sg} {a p k : Nat} {t : List Nat} (hW : WT c σ0) (hB : Bd σ0 σ a t k) (hl : t.length ≤ 780) (hp : p < 30) (hQ : ∀ τ, Bd σ0 τ a (t ++ lnPrW c p) (k + 40) → Ok (DL_text_508 K333 1024 (nI p) a τ) Q) : Ok (DL_text_464 K333 1024 (nI p) a σ) Q := by
  have b0 := pO_b c p
  have b2 := nCa_b c
  unfold DL_text_464
  refine ok_bnd_eq (n_pro (hW.f hB.1).sc p (by omega)).2.2.2.2.2 ?_
  unfold lnPrW at hQ
  by_cases q : pW c p = true
  · rw [if_pos q] at hQ ⊢
    rw [if_pos (show (0 : Int32) ≤ nI (pO c p) from nI_pos' (by omega))]
    have hW0 := hW
    have hW := hW.f hB.1
    unfold DL_text_481
    refine okN hW.2 (fun τ h => ?_)
    unfold DL_text_485
    refine okL (i := 12) hW h (by decide) (by simp only [List.length_append, List.length_nil, List.length_cons, pll, cal, txl_0, txl_3, txl_4, txl_5, txl_6, txl_7, txl_8, txl_9, txl_10, txl_11, txl_12, txl_13, txl_14, txl_15, txl_16]; omega) (fun τ h => ?_)
    unfold DL_text_490
    refine ok_bnd_eq ((n_pro (hW.f h.1).sc p (by omega)).2.2.2.2.2) ?_
    rw [if_pos q]
    refine okO (p := pO c p) hW h (by omega) (fun τ y h e => ?_)
    unfold DL_text_499
    refine okS h e (by simp only [List.length_append, List.length_nil, List.length_cons, pll, cal, txl_0, txl_3, txl_4, txl_5, txl_6, txl_7, txl_8, txl_9, txl_10, txl_11, txl_12, txl_13, txl_14, txl_15, txl_16]; omega) (fun τ h => ?_)
    unfold DL_text_502
    refine okT h (fun τ y g e => ?_)
    unfold DL_text_505
    refine okS (hB.call g) e (by simp only [List.length_append, List.length_nil, List.length_cons, pll, cal, txl_0, txl_3, txl_4, txl_5, txl_6, txl_7, txl_8, txl_9, txl_10, txl_11, txl_12, txl_13, txl_14, txl_15, txl_16]; omega) (fun τ h => hQ τ ?_)
    have h2 := h.wk (j := k + 40) (by omega)
    simpa only [List.append_assoc, List.nil_append] using h2
  · rw [if_neg q] at hQ ⊢
    rw [if_neg (by decide)]
    unfold DL_text_505
    exact okL (i := 11) hW hB (by decide) (by rw [txl_11]; omega) (fun τ h => hQ τ (h.wk (by omega)))
theorem WT.kd {c : Nat → Int32} {σ : Sg} (h : WT c σ) {k : Nat} (h1 : 1 ≤ k) (h2 : k ≤ 4) : (decide ((gS σ 1025).1 = 8) && decide (1000 ≤ 1025) && decide (1025 < 2000) && inb (nI k - (1 : Int32)) (gS σ 1025).2) = true ∧ gR σ 1025 (nI k - (1 : Int32)).toNatClampNeg = 1030 + (16 + k) := by
  obtain ⟨⟨L, xs, hO, -⟩, -⟩ := h
  obtain ⟨o1, o2, o3, o4⟩ := hO 1025 (by decide) (by decide)
  have e1 : gS σ 1025 = (8, 4) := o1
  have e2 : nI k - (1 : Int32) = nI (k - 1) := pk_sub (b := 1) h1
  rw [e1, e2, nI_clamp (by omega), o3, inb_nI (show k - 1 < 4 by omega) (by decide)]
  refine ⟨rfl, ?_⟩
  show 1047 + (k - 1) = _
  omega
theorem t_pr {K333 : Nat → Nat → Int32 → Sg → Option (Nat × Sg)} {Q : Nat → Sg → Prop} {c : Nat → Int32} {σ : Sg} {x p : Nat} {t : List Nat} (hW : WT c σ) (hx : StI σ x t) (hl : t.length ≤ 650) (hp : p < 30) (hQ : ∀ τ y, G1 (fun _ => False) σ τ 120 → StI τ y (t ++ lnPr c p) → Ok (K333 1024 y (nI (p + 1)) τ) Q) :
    Ok (chk (ck51 σ) (wlet (mkD σ 1 8 4) fun υ => DL_text_344 K333 1024 x (nI p) (2000 + gM σ) υ)) Q := by
  have b0 := pC_b c p
  have b1 := pK_b c p
  have b2 := pV_b c p
  have b3 := nCa_b c
  have d0 := dgs_le (v := pV c p)
  have d1 := lnPrA_len (c := c) (p := p)
  have d2 := lnPrW_len (c := c) (p := p)
  have d3 := txl_k ⟨pK c p, by omega⟩
  simp only at d3
  unfold DL_text_344
  refine okN hW.2 (fun τ h => ?_)
  unfold DL_text_348
  refine okS h (hx.f h.1) (by simp only [List.length_append, List.length_nil, List.length_cons, pll, cal, txl_0, txl_3, txl_4, txl_5, txl_6, txl_7, txl_8, txl_9, txl_10, txl_11, txl_12, txl_13, txl_14, txl_15, txl_16]; omega) (fun τ h => ?_)
  unfold DL_text_352
  refine okL (i := 9) hW h (by decide) (by simp only [List.length_append, List.length_nil, List.length_cons, pll, cal, txl_0, txl_3, txl_4, txl_5, txl_6, txl_7, txl_8, txl_9, txl_10, txl_11, txl_12, txl_13, txl_14, txl_15, txl_16]; omega) (fun τ h => ?_)
  unfold DL_text_357
  refine ok_bnd_eq ((n_pro (hW.f h.1).sc p (by omega)).1) ?_
  refine okO (p := pC c p) hW h (by omega) (fun τ y h e => ?_)
  unfold DL_text_366
  refine okS h e (by simp only [List.length_append, List.length_nil, List.length_cons, pll, cal, txl_0, txl_3, txl_4, txl_5, txl_6, txl_7, txl_8, txl_9, txl_10, txl_11, txl_12, txl_13, txl_14, txl_15, txl_16]; omega) (fun τ h => ?_)
  refine t_prA hW h (by simp only [List.length_append, List.length_nil, List.length_cons, pll, cal, txl_0, txl_3, txl_4, txl_5, txl_6, txl_7, txl_8, txl_9, txl_10, txl_11, txl_12, txl_13, txl_14, txl_15, txl_16]; omega) hp (fun τ h => ?_)
  unfold DL_text_435
  refine ok_bnd_eq ((n_pro (hW.f h.1).sc p (by omega)).2.2.2.1) ?_
  obtain ⟨k1, k2⟩ := (hW.f h.1).kd b1.1 b1.2
  rw [k1, chk_true, k2, show ckV (1030 + (16 + pK c p)) = true from decide_eq_true (by omega), chk_true]
  refine okL (i := 16 + pK c p) hW h (by omega) (by simp only [List.length_append, List.length_nil, List.length_cons, pll, cal, txl_0, txl_3, txl_4, txl_5, txl_6, txl_7, txl_8, txl_9, txl_10, txl_11, txl_12, txl_13, txl_14, txl_15, txl_16]; omega) (fun τ h => ?_)
  unfold DL_text_450
  refine okL (i := 0) hW h (by decide) (by simp only [List.length_append, List.length_nil, List.length_cons, pll, cal, txl_0, txl_3, txl_4, txl_5, txl_6, txl_7, txl_8, txl_9, txl_10, txl_11, txl_12, txl_13, txl_14, txl_15, txl_16]; omega) (fun τ h => ?_)
  unfold DL_text_455
  refine ok_bnd_eq ((n_pro (hW.f h.1).sc p (by omega)).2.2.2.2.1) ?_
  refine okI hW h (by omega) (by simp only [List.length_append, List.length_nil, List.length_cons, pll, cal, txl_0, txl_3, txl_4, txl_5, txl_6, txl_7, txl_8, txl_9, txl_10, txl_11, txl_12, txl_13, txl_14, txl_15, txl_16]; omega) (fun τ h => ?_)
  refine t_prW hW h (by simp only [List.length_append, List.length_nil, List.length_cons, pll, cal, txl_0, txl_3, txl_4, txl_5, txl_6, txl_7, txl_8, txl_9, txl_10, txl_11, txl_12, txl_13, txl_14, txl_15, txl_16]; omega) hp (fun τ h => ?_)
  unfold DL_text_508
  refine okL (i := 4) hW h (by decide) (by simp only [List.length_append, List.length_nil, List.length_cons, pll, cal, txl_0, txl_3, txl_4, txl_5, txl_6, txl_7, txl_8, txl_9, txl_10, txl_11, txl_12, txl_13, txl_14, txl_15, txl_16]; omega) (fun τ h => ?_)
  unfold DL_text_513
  refine okT h (fun τ y g e => ?_)
  unfold DL_text_516
  rw [show nI p + (1 : Int32) = nI (p + 1) from nI_add _ _]
  exact hQ τ y (g.wk (j := 120) (by omega)) (by unfold lnPr; simpa only [List.append_assoc, List.nil_append] using e)
theorem t_bs {K525 : Nat → Nat → Int32 → Sg → Option (Nat × Sg)} {Q : Nat → Sg → Prop} {c : Nat → Int32} {σ : Sg} {x p : Nat} {t : List Nat} (hW : WT c σ) (hx : StI σ x t) (hl : t.length ≤ 650) (hp : p < 30) (hI : bI c p = true) (hQ : ∀ τ y, G1 (fun _ => False) σ τ 40 → StI τ y (t ++ lnBs c p) → Ok (K525 1024 y (nI (p + 1)) τ) Q) :
    Ok (chk (ck51 σ) (wlet (mkD σ 1 8 4) fun υ => DL_text_544 K525 1024 x (nI p) (2000 + gM σ) υ)) Q := by
  have b0 := bC_b c p
  have b1 := bP_b c p
  have b2 := bV_b c p
  have b3 := nCa_b c
  have b4 := nPl_b c
  have d0 := dgs_le (v := bV c p)
  unfold DL_text_544
  refine okN hW.2 (fun τ h => ?_)
  unfold DL_text_548
  refine okS h (hx.f h.1) (by simp only [List.length_append, List.length_nil, List.length_cons, pll, cal, txl_0, txl_3, txl_4, txl_5, txl_6, txl_7, txl_8, txl_9, txl_10, txl_11, txl_12, txl_13, txl_14, txl_15, txl_16]; omega) (fun τ h => ?_)
  unfold DL_text_552
  refine okL (i := 13) hW h (by decide) (by simp only [List.length_append, List.length_nil, List.length_cons, pll, cal, txl_0, txl_3, txl_4, txl_5, txl_6, txl_7, txl_8, txl_9, txl_10, txl_11, txl_12, txl_13, txl_14, txl_15, txl_16]; omega) (fun τ h => ?_)
  unfold DL_text_557
  refine ok_bnd_eq (n_base0 (hW.f h.1).sc p (by omega)) ?_
  refine okO (p := bC c p) hW h (by omega) (fun τ y h e => ?_)
  unfold DL_text_566
  refine okS h e (by simp only [List.length_append, List.length_nil, List.length_cons, pll, cal, txl_0, txl_3, txl_4, txl_5, txl_6, txl_7, txl_8, txl_9, txl_10, txl_11, txl_12, txl_13, txl_14, txl_15, txl_16]; omega) (fun τ h => ?_)
  unfold DL_text_569
  refine okL (i := 0) hW h (by decide) (by simp only [List.length_append, List.length_nil, List.length_cons, pll, cal, txl_0, txl_3, txl_4, txl_5, txl_6, txl_7, txl_8, txl_9, txl_10, txl_11, txl_12, txl_13, txl_14, txl_15, txl_16]; omega) (fun τ h => ?_)
  unfold DL_text_574
  refine ok_bnd_eq (n_base1 (hW.f h.1).sc p (by omega)) ?_
  refine okP (p := bP c p) hW h (by omega) (fun τ y h e => ?_)
  unfold DL_text_583
  refine okS h e (by simp only [List.length_append, List.length_nil, List.length_cons, pll, cal, txl_0, txl_3, txl_4, txl_5, txl_6, txl_7, txl_8, txl_9, txl_10, txl_11, txl_12, txl_13, txl_14, txl_15, txl_16]; omega) (fun τ h => ?_)
  unfold DL_text_586
  refine okL (i := 0) hW h (by decide) (by simp only [List.length_append, List.length_nil, List.length_cons, pll, cal, txl_0, txl_3, txl_4, txl_5, txl_6, txl_7, txl_8, txl_9, txl_10, txl_11, txl_12, txl_13, txl_14, txl_15, txl_16]; omega) (fun τ h => ?_)
  unfold DL_text_591
  refine ok_bnd_eq (n_base1 (hW.f h.1).sc p (by omega)) ?_
  rw [show nI (bP c p) + (1 : Int32) = nI (bP c p + 1) from nI_add _ _]
  refine okP (p := bP c p + 1) hW h (by omega) (fun τ y h e => ?_)
  unfold DL_text_602
  refine okS h e (by simp only [List.length_append, List.length_nil, List.length_cons, pll, cal, txl_0, txl_3, txl_4, txl_5, txl_6, txl_7, txl_8, txl_9, txl_10, txl_11, txl_12, txl_13, txl_14, txl_15, txl_16]; omega) (fun τ h => ?_)
  unfold DL_text_605
  refine okL (i := 0) hW h (by decide) (by simp only [List.length_append, List.length_nil, List.length_cons, pll, cal, txl_0, txl_3, txl_4, txl_5, txl_6, txl_7, txl_8, txl_9, txl_10, txl_11, txl_12, txl_13, txl_14, txl_15, txl_16]; omega) (fun τ h => ?_)
  unfold DL_text_610
  refine ok_bnd_eq (n_base2 (hW.f h.1).sc p (by omega)) ?_
  refine okI hW h (by omega) (by simp only [List.length_append, List.length_nil, List.length_cons, pll, cal, txl_0, txl_3, txl_4, txl_5, txl_6, txl_7, txl_8, txl_9, txl_10, txl_11, txl_12, txl_13, txl_14, txl_15, txl_16]; omega) (fun τ h => ?_)
  unfold DL_text_619
  refine okL (i := 4) hW h (by decide) (by simp only [List.length_append, List.length_nil, List.length_cons, pll, cal, txl_0, txl_3, txl_4, txl_5, txl_6, txl_7, txl_8, txl_9, txl_10, txl_11, txl_12, txl_13, txl_14, txl_15, txl_16]; omega) (fun τ h => ?_)
  unfold DL_text_624
  refine okT h (fun τ y g e => ?_)
  unfold DL_text_627 DL_text_628
  rw [show nI p + (1 : Int32) = nI (p + 1) from nI_add _ _]
  exact hQ τ y (g.wk (by omega)) (by unfold lnBs; rw [if_pos hI]; simpa only [List.append_assoc, List.nil_append] using e)
theorem t_tk {K636 : Nat → Nat → Int32 → Sg → Option (Nat × Sg)} {Q : Nat → Sg → Prop} {c : Nat → Int32} {σ : Sg} {x p : Nat} {t : List Nat} (hW : WT c σ) (hx : StI σ x t) (hl : t.length ≤ 650) (hp : p < 8) (hQ : ∀ τ y, G1 (fun _ => False) σ τ 40 → StI τ y (t ++ lnTh c p) → Ok (DL_text_717 K636 FU 1024 y (nI p) (nI 0) τ) Q) :
    Ok (chk (ck51 σ) (wlet (mkD σ 1 8 4) fun υ => DL_text_647 K636 1024 x (nI p) (2000 + gM σ) υ)) Q := by
  have b0 := nF_b c p
  have b1 := nAt_b c p 0
  have b2 := nPl_b c
  have b3 := nH_b c p
  have d0 := dgs_le (v := nF c p)
  unfold DL_text_647
  refine okN hW.2 (fun τ h => ?_)
  unfold DL_text_651
  refine okS h (hx.f h.1) (by simp only [List.length_append, List.length_nil, List.length_cons, pll, cal, txl_0, txl_3, txl_4, txl_5, txl_6, txl_7, txl_8, txl_9, txl_10, txl_11, txl_12, txl_13, txl_14, txl_15, txl_16]; omega) (fun τ h => ?_)
  unfold DL_text_655
  refine okL (i := 14) hW h (by decide) (by simp only [List.length_append, List.length_nil, List.length_cons, pll, cal, txl_0, txl_3, txl_4, txl_5, txl_6, txl_7, txl_8, txl_9, txl_10, txl_11, txl_12, txl_13, txl_14, txl_15, txl_16]; omega) (fun τ h => ?_)
  unfold DL_text_660
  refine okC h (by omega) (by simp only [List.length_append, List.length_nil, List.length_cons, pll, cal, txl_0, txl_3, txl_4, txl_5, txl_6, txl_7, txl_8, txl_9, txl_10, txl_11, txl_12, txl_13, txl_14, txl_15, txl_16]; omega) (fun τ h => ?_)
  unfold DL_text_668
  refine okL (i := 0) hW h (by decide) (by simp only [List.length_append, List.length_nil, List.length_cons, pll, cal, txl_0, txl_3, txl_4, txl_5, txl_6, txl_7, txl_8, txl_9, txl_10, txl_11, txl_12, txl_13, txl_14, txl_15, txl_16]; omega) (fun τ h => ?_)
  unfold DL_text_673
  refine ok_bnd_eq (n_fare (hW.f h.1).sc p hp) ?_
  refine okI hW h (by omega) (by simp only [List.length_append, List.length_nil, List.length_cons, pll, cal, txl_0, txl_3, txl_4, txl_5, txl_6, txl_7, txl_8, txl_9, txl_10, txl_11, txl_12, txl_13, txl_14, txl_15, txl_16]; omega) (fun τ h => ?_)
  unfold DL_text_681
  refine ok_bnd_eq (n_how (hW.f h.1).sc p hp) ?_
  have go : ∀ i, 15 ≤ i → i ≤ 16 → ∀ τ, Bd σ τ (2000 + gM σ) ([] ++ t ++ tx 14 ++ [97 + p] ++ tx 0 ++ dgs (nF c p)) 7 → (if nH c p = 0 then tx 15 else tx 16) = tx i → Ok (DL_text_696 K636 1024 (nI p) (2000 + gM σ) (1030 + i) τ) Q := by
    intro i h1 h2 τ h ei
    have dt : (tx i).length ≤ 7 := by
      rcases (by omega : i = 15 ∨ i = 16) with rfl | rfl
      · rw [txl_15]; omega
      · rw [txl_16]; omega
    unfold DL_text_696
    refine okL (i := i) hW h (by omega) (by simp only [List.length_append, List.length_nil, List.length_cons, pll, cal, txl_0, txl_3, txl_4, txl_5, txl_6, txl_7, txl_8, txl_9, txl_10, txl_11, txl_12, txl_13, txl_14, txl_15, txl_16]; omega) (fun τ h => ?_)
    unfold DL_text_699
    refine ok_bnd_eq (n_at (hW.f h.1).sc p 0 hp (by omega)) ?_
    refine okP (p := nAt c p 0) hW h (by omega) (fun τ y h e => ?_)
    unfold DL_text_708
    refine okS h e (by simp only [List.length_append, List.length_nil, List.length_cons, pll, cal, txl_0, txl_3, txl_4, txl_5, txl_6, txl_7, txl_8, txl_9, txl_10, txl_11, txl_12, txl_13, txl_14, txl_15, txl_16]; omega) (fun τ h => ?_)
    unfold DL_text_711
    refine okT h (fun τ y g e => ?_)
    unfold DL_text_714
    refine hQ τ y (g.wk (by omega)) ?_
    unfold lnTh
    rw [ei]
    simpa only [List.append_assoc, List.nil_append] using e
  by_cases q : nH c p = 0
  · rw [if_pos (show nI (nH c p) = (0 : Int32) by rw [q]; rfl)]
    exact go 15 (by omega) (by omega) τ h (if_pos q)
  · rw [if_neg (show ¬ nI (nH c p) = (0 : Int32) by rw [z_nI (by omega)]; exact q)]
    exact go 16 (by omega) (by omega) τ h (if_neg q)
theorem t_co {K636 : Nat → Nat → Int32 → Sg → Option (Nat × Sg)} {K717 : Nat → Nat → Int32 → Int32 → Sg → Option (Nat × Sg)} {Q : Nat → Sg → Prop} {c : Nat → Int32} {σ : Sg} {x p k : Nat} {t : List Nat} (hW : WT c σ) (hx : StI σ x t) (hl : t.length ≤ 750) (hp : p < 8) (hk : k < 8) (hQ : ∀ τ y, G1 (fun _ => False) σ τ 40 → StI τ y (t ++ lnCo c p k) → Ok (K717 1024 y (nI p) (nI (k + 1)) τ) Q) :
    Ok (chk (ck51 σ) (wlet (mkD σ 1 8 4) fun υ => DL_text_729 K636 K717 1024 x (nI p) (nI k) (2000 + gM σ) υ)) Q := by
  have b0 := nCr_b c p k
  have b1 := nAt_b c p (k + 1)
  have b2 := nPl_b c
  have b3 := nCa_b c
  unfold DL_text_729
  refine okN hW.2 (fun τ h => ?_)
  unfold DL_text_733
  refine okS h (hx.f h.1) (by simp only [List.length_append, List.length_nil, List.length_cons, pll, cal, txl_0, txl_3, txl_4, txl_5, txl_6, txl_7, txl_8, txl_9, txl_10, txl_11, txl_12, txl_13, txl_14, txl_15, txl_16]; omega) (fun τ h => ?_)
  unfold DL_text_737
  refine okL (i := 0) hW h (by decide) (by simp only [List.length_append, List.length_nil, List.length_cons, pll, cal, txl_0, txl_3, txl_4, txl_5, txl_6, txl_7, txl_8, txl_9, txl_10, txl_11, txl_12, txl_13, txl_14, txl_15, txl_16]; omega) (fun τ h => ?_)
  unfold DL_text_742
  refine ok_bnd_eq (n_carrier (hW.f h.1).sc p k hp) ?_
  refine okO (p := nCr c p k) hW h (by omega) (fun τ y h e => ?_)
  unfold DL_text_751
  refine okS h e (by simp only [List.length_append, List.length_nil, List.length_cons, pll, cal, txl_0, txl_3, txl_4, txl_5, txl_6, txl_7, txl_8, txl_9, txl_10, txl_11, txl_12, txl_13, txl_14, txl_15, txl_16]; omega) (fun τ h => ?_)
  unfold DL_text_754
  refine okL (i := 0) hW h (by decide) (by simp only [List.length_append, List.length_nil, List.length_cons, pll, cal, txl_0, txl_3, txl_4, txl_5, txl_6, txl_7, txl_8, txl_9, txl_10, txl_11, txl_12, txl_13, txl_14, txl_15, txl_16]; omega) (fun τ h => ?_)
  unfold DL_text_759
  rw [show nI k + (1 : Int32) = nI (k + 1) from nI_add _ _]
  refine ok_bnd_eq (n_at (hW.f h.1).sc p (k + 1) hp (by omega)) ?_
  refine okP (p := nAt c p (k + 1)) hW h (by omega) (fun τ y h e => ?_)
  unfold DL_text_770
  refine okS h e (by simp only [List.length_append, List.length_nil, List.length_cons, pll, cal, txl_0, txl_3, txl_4, txl_5, txl_6, txl_7, txl_8, txl_9, txl_10, txl_11, txl_12, txl_13, txl_14, txl_15, txl_16]; omega) (fun τ h => ?_)
  unfold DL_text_773
  refine okT h (fun τ y g e => ?_)
  unfold DL_text_776
  rw [show nI k + (1 : Int32) = nI (k + 1) from nI_add _ _]
  exact hQ τ y (g.wk (by omega)) (by unfold lnCo; simpa only [List.append_assoc, List.nil_append] using e)
theorem t_en {K636 : Nat → Nat → Int32 → Sg → Option (Nat × Sg)} {Q : Nat → Sg → Prop} {c : Nat → Int32} {σ : Sg} {x p : Nat} {t : List Nat} (hW : WT c σ) (hx : StI σ x t) (hl : t.length ≤ 750) (hQ : ∀ τ y, G1 (fun _ => False) σ τ 40 → StI τ y (t ++ tx 4) → Ok (K636 1024 y (nI (p + 1)) τ) Q) :
    Ok (DL_text_783 K636 1024 x (nI p) σ) Q := by
  unfold DL_text_783
  unfold DL_text_786
  refine okN hW.2 (fun τ h => ?_)
  unfold DL_text_790
  refine okS h (hx.f h.1) (by simp only [List.length_append, List.length_nil, List.length_cons, pll, cal, txl_0, txl_3, txl_4, txl_5, txl_6, txl_7, txl_8, txl_9, txl_10, txl_11, txl_12, txl_13, txl_14, txl_15, txl_16]; omega) (fun τ h => ?_)
  unfold DL_text_794
  refine okL (i := 4) hW h (by decide) (by simp only [List.length_append, List.length_nil, List.length_cons, pll, cal, txl_0, txl_3, txl_4, txl_5, txl_6, txl_7, txl_8, txl_9, txl_10, txl_11, txl_12, txl_13, txl_14, txl_15, txl_16]; omega) (fun τ h => ?_)
  unfold DL_text_799
  refine okT h (fun τ y g e => ?_)
  unfold DL_text_802
  rw [show nI p + (1 : Int32) = nI (p + 1) from nI_add _ _]
  exact hQ τ y (g.wk (by omega)) (by simpa only [List.append_assoc, List.nil_append] using e)
theorem t_30 {Q : Nat → Sg → Prop} {c : Nat → Int32} : ∀ (d i m : Nat) (σ : Sg) (x : Nat) (t : List Nat), i + d = nPl c → d < m → WT c σ → StI σ x t → t.length + 9 * d ≤ 650 → (∀ τ y, G1 (fun _ => False) σ τ (40 * d) → StI τ y (t ++ fm lnPl i d) → Ok (DL_text_76 1024 y τ) Q) → Ok (DL_text_30 m 1024 x (nI i) σ) Q := by
  have b0 := nPl_b c
  have b1 := nCa_b c
  have b2 := nBd_b c
  have b3 := nPr_b c
  have b4 := nBs_b c
  have b5 := nTk_b c
  intro d
  induction d with
  | zero =>
    intro i m σ x t hi hm hW hx hl hQ
    obtain ⟨m, rfl⟩ : ∃ k, m = k + 1 := ⟨m - 1, by omega⟩
    rw [DL_text_30]
    refine ok_bnd_eq (n_places hW.sc) ?_
    rw [if_pos (show nI (nPl c) ≤ nI i from (nI_leI (by omega) (by omega)).mpr (by omega))]
    exact hQ σ x (G1.rf.wk (Nat.zero_le _)) (by unfold fm; rw [List.append_nil]; exact hx)
  | succ d ih =>
    intro i m σ x t hi hm hW hx hl hQ
    obtain ⟨m, rfl⟩ : ∃ k, m = k + 1 := ⟨m - 1, by omega⟩
    rw [DL_text_30]
    refine ok_bnd_eq (n_places hW.sc) ?_
    rw [if_neg (show ¬ nI (nPl c) ≤ nI i from fun z => by have := (nI_leI (by omega) (by omega)).mp z; omega)]
    have bl := lnPl_len (c := c) (p := i)
    refine t_pl hW hx (by omega) (by omega) (fun τ y g e => ?_)
    refine ih (i + 1) m τ y (t ++ lnPl i) (by omega) (by omega) (hW.f g) e (by rw [List.length_append]; omega) (fun ω z g2 e2 => hQ ω z ((g.tr g2 (fun _ _ w => w)).wk (by omega)) ?_)
    unfold fm
    rw [← List.append_assoc]
    exact e2
theorem t_78 {Q : Nat → Sg → Prop} {c : Nat → Int32} : ∀ (d i m : Nat) (σ : Sg) (x : Nat) (t : List Nat), i + d = nCa c → d < m → WT c σ → StI σ x t → t.length + 11 * d ≤ 650 → (∀ τ y, G1 (fun _ => False) σ τ (40 * d) → StI τ y (t ++ fm lnCa i d) → Ok (DL_text_124 1024 y τ) Q) → Ok (DL_text_78 m 1024 x (nI i) σ) Q := by
  have b0 := nPl_b c
  have b1 := nCa_b c
  have b2 := nBd_b c
  have b3 := nPr_b c
  have b4 := nBs_b c
  have b5 := nTk_b c
  intro d
  induction d with
  | zero =>
    intro i m σ x t hi hm hW hx hl hQ
    obtain ⟨m, rfl⟩ : ∃ k, m = k + 1 := ⟨m - 1, by omega⟩
    rw [DL_text_78]
    refine ok_bnd_eq (n_carriers hW.sc) ?_
    rw [if_pos (show nI (nCa c) ≤ nI i from (nI_leI (by omega) (by omega)).mpr (by omega))]
    exact hQ σ x (G1.rf.wk (Nat.zero_le _)) (by unfold fm; rw [List.append_nil]; exact hx)
  | succ d ih =>
    intro i m σ x t hi hm hW hx hl hQ
    obtain ⟨m, rfl⟩ : ∃ k, m = k + 1 := ⟨m - 1, by omega⟩
    rw [DL_text_78]
    refine ok_bnd_eq (n_carriers hW.sc) ?_
    rw [if_neg (show ¬ nI (nCa c) ≤ nI i from fun z => by have := (nI_leI (by omega) (by omega)).mp z; omega)]
    have bl := lnCa_len (c := c) (p := i)
    refine t_ca hW hx (by omega) (by omega) (fun τ y g e => ?_)
    refine ih (i + 1) m τ y (t ++ lnCa i) (by omega) (by omega) (hW.f g) e (by rw [List.length_append]; omega) (fun ω z g2 e2 => hQ ω z ((g.tr g2 (fun _ _ w => w)).wk (by omega)) ?_)
    unfold fm
    rw [← List.append_assoc]
    exact e2
theorem t_126 {Q : Nat → Sg → Prop} {c : Nat → Int32} : ∀ (d i m : Nat) (σ : Sg) (x : Nat) (t : List Nat), i + d = nPl c - 1 → d < m → WT c σ → StI σ x t → t.length + 15 * d ≤ 650 → (∀ τ y, G1 (fun _ => False) σ τ (40 * d) → StI τ y (t ++ fm (lnLg c) i d) → Ok (DL_text_201 1024 y τ) Q) → Ok (DL_text_126 m 1024 x (nI i) σ) Q := by
  have b0 := nPl_b c
  have b1 := nCa_b c
  have b2 := nBd_b c
  have b3 := nPr_b c
  have b4 := nBs_b c
  have b5 := nTk_b c
  intro d
  induction d with
  | zero =>
    intro i m σ x t hi hm hW hx hl hQ
    obtain ⟨m, rfl⟩ : ∃ k, m = k + 1 := ⟨m - 1, by omega⟩
    rw [DL_text_126]
    refine ok_bnd_eq (n_places hW.sc) ?_
    rw [if_pos (show nI (nPl c) ≤ nI i + (1 : Int32) from by rw [show nI i + (1 : Int32) = nI (i + 1) from nI_add _ _]; exact (nI_leI (by omega) (by omega)).mpr (by omega))]
    exact hQ σ x (G1.rf.wk (Nat.zero_le _)) (by unfold fm; rw [List.append_nil]; exact hx)
  | succ d ih =>
    intro i m σ x t hi hm hW hx hl hQ
    obtain ⟨m, rfl⟩ : ∃ k, m = k + 1 := ⟨m - 1, by omega⟩
    rw [DL_text_126]
    refine ok_bnd_eq (n_places hW.sc) ?_
    rw [if_neg (show ¬ nI (nPl c) ≤ nI i + (1 : Int32) from fun z => by rw [show nI i + (1 : Int32) = nI (i + 1) from nI_add _ _] at z; have := (nI_leI (by omega) (by omega)).mp z; omega)]
    have bl := lnLg_len (c := c) (p := i)
    refine t_lg hW hx (by omega) (by omega) (fun τ y g e => ?_)
    refine ih (i + 1) m τ y (t ++ lnLg c i) (by omega) (by omega) (hW.f g) e (by rw [List.length_append]; omega) (fun ω z g2 e2 => hQ ω z ((g.tr g2 (fun _ _ w => w)).wk (by omega)) ?_)
    unfold fm
    rw [← List.append_assoc]
    exact e2
theorem t_271 {Q : Nat → Sg → Prop} {c : Nat → Int32} : ∀ (d i m : Nat) (σ : Sg) (x : Nat) (t : List Nat), i + d = nBd c → d < m → WT c σ → StI σ x t → t.length + 15 * d ≤ 650 → (∀ τ y, G1 (fun _ => False) σ τ (40 * d) → StI τ y (t ++ fm (lnBd c) i d) → Ok (DL_text_331 1024 y τ) Q) → Ok (DL_text_271 m 1024 x (nI i) σ) Q := by
  have b0 := nPl_b c
  have b1 := nCa_b c
  have b2 := nBd_b c
  have b3 := nPr_b c
  have b4 := nBs_b c
  have b5 := nTk_b c
  intro d
  induction d with
  | zero =>
    intro i m σ x t hi hm hW hx hl hQ
    obtain ⟨m, rfl⟩ : ∃ k, m = k + 1 := ⟨m - 1, by omega⟩
    rw [DL_text_271]
    refine ok_bnd_eq (n_bands hW.sc) ?_
    rw [if_pos (show nI (nBd c) ≤ nI i from (nI_leI (by omega) (by omega)).mpr (by omega))]
    exact hQ σ x (G1.rf.wk (Nat.zero_le _)) (by unfold fm; rw [List.append_nil]; exact hx)
  | succ d ih =>
    intro i m σ x t hi hm hW hx hl hQ
    obtain ⟨m, rfl⟩ : ∃ k, m = k + 1 := ⟨m - 1, by omega⟩
    rw [DL_text_271]
    refine ok_bnd_eq (n_bands hW.sc) ?_
    rw [if_neg (show ¬ nI (nBd c) ≤ nI i from fun z => by have := (nI_leI (by omega) (by omega)).mp z; omega)]
    have bl := lnBd_len (c := c) (p := i)
    refine t_bd hW hx (by omega) (by omega) (fun τ y g e => ?_)
    refine ih (i + 1) m τ y (t ++ lnBd c i) (by omega) (by omega) (hW.f g) e (by rw [List.length_append]; omega) (fun ω z g2 e2 => hQ ω z ((g.tr g2 (fun _ _ w => w)).wk (by omega)) ?_)
    unfold fm
    rw [← List.append_assoc]
    exact e2
theorem t_333 {Q : Nat → Sg → Prop} {c : Nat → Int32} : ∀ (d i m : Nat) (σ : Sg) (x : Nat) (t : List Nat), i + d = nPr c → d < m → WT c σ → StI σ x t → t.length + 37 * d ≤ 650 → (∀ τ y, G1 (fun _ => False) σ τ (120 * d) → StI τ y (t ++ fm (lnPr c) i d) → Ok (DL_text_523 1024 y τ) Q) → Ok (DL_text_333 m 1024 x (nI i) σ) Q := by
  have b0 := nPl_b c
  have b1 := nCa_b c
  have b2 := nBd_b c
  have b3 := nPr_b c
  have b4 := nBs_b c
  have b5 := nTk_b c
  intro d
  induction d with
  | zero =>
    intro i m σ x t hi hm hW hx hl hQ
    obtain ⟨m, rfl⟩ : ∃ k, m = k + 1 := ⟨m - 1, by omega⟩
    rw [DL_text_333]
    refine ok_bnd_eq (n_provisos hW.sc) ?_
    rw [if_pos (show nI (nPr c) ≤ nI i from (nI_leI (by omega) (by omega)).mpr (by omega))]
    exact hQ σ x (G1.rf.wk (Nat.zero_le _)) (by unfold fm; rw [List.append_nil]; exact hx)
  | succ d ih =>
    intro i m σ x t hi hm hW hx hl hQ
    obtain ⟨m, rfl⟩ : ∃ k, m = k + 1 := ⟨m - 1, by omega⟩
    rw [DL_text_333]
    refine ok_bnd_eq (n_provisos hW.sc) ?_
    rw [if_neg (show ¬ nI (nPr c) ≤ nI i from fun z => by have := (nI_leI (by omega) (by omega)).mp z; omega)]
    have bl := lnPr_len (c := c) (p := i)
    refine t_pr hW hx (by omega) (by omega) (fun τ y g e => ?_)
    refine ih (i + 1) m τ y (t ++ lnPr c i) (by omega) (by omega) (hW.f g) e (by rw [List.length_append]; omega) (fun ω z g2 e2 => hQ ω z ((g.tr g2 (fun _ _ w => w)).wk (by omega)) ?_)
    unfold fm
    rw [← List.append_assoc]
    exact e2
theorem t_525 {Q : Nat → Sg → Prop} {c : Nat → Int32} : ∀ (d i m : Nat) (σ : Sg) (x : Nat) (t : List Nat), i + d = nBs c → d < m → WT c σ → StI σ x t → t.length + 19 * d ≤ 650 → (∀ τ y, G1 (fun _ => False) σ τ (40 * d) → StI τ y (t ++ fm (lnBs c) i d) → Ok (DL_text_634 1024 y τ) Q) → Ok (DL_text_525 m 1024 x (nI i) σ) Q := by
  have b0 := nPl_b c
  have b1 := nCa_b c
  have b2 := nBd_b c
  have b3 := nPr_b c
  have b4 := nBs_b c
  have b5 := nTk_b c
  intro d
  induction d with
  | zero =>
    intro i m σ x t hi hm hW hx hl hQ
    obtain ⟨m, rfl⟩ : ∃ k, m = k + 1 := ⟨m - 1, by omega⟩
    rw [DL_text_525]
    refine ok_bnd_eq (n_bases hW.sc) ?_
    rw [if_pos (show nI (nBs c) ≤ nI i from (nI_leI (by omega) (by omega)).mpr (by omega))]
    exact hQ σ x (G1.rf.wk (Nat.zero_le _)) (by unfold fm; rw [List.append_nil]; exact hx)
  | succ d ih =>
    intro i m σ x t hi hm hW hx hl hQ
    obtain ⟨m, rfl⟩ : ∃ k, m = k + 1 := ⟨m - 1, by omega⟩
    rw [DL_text_525]
    refine ok_bnd_eq (n_bases hW.sc) ?_
    rw [if_neg (show ¬ nI (nBs c) ≤ nI i from fun z => by have := (nI_leI (by omega) (by omega)).mp z; omega)]
    have bl := lnBs_len (c := c) (p := i)
    have nx : ∀ τ y, G1 (fun _ => False) σ τ 40 → StI τ y (t ++ lnBs c i) → Ok (DL_text_525 m 1024 y (nI (i + 1)) τ) Q := fun τ y g e => by
      refine ih (i + 1) m τ y (t ++ lnBs c i) (by omega) (by omega) (hW.f g) e (by rw [List.length_append]; omega) (fun ω z g2 e2 => hQ ω z ((g.tr g2 (fun _ _ w => w)).wk (by omega)) ?_)
      unfold fm
      rw [← List.append_assoc]
      exact e2
    refine ok_bnd_eq (n_isBase hW.sc i (by omega)) ?_
    by_cases q : bI c i = true
    · rw [if_pos q, if_neg (by decide)]
      exact t_bs hW hx (by omega) (by omega) q nx
    · rw [if_neg q, if_pos rfl]
      unfold DL_text_628
      rw [show nI i + (1 : Int32) = nI (i + 1) from nI_add _ _]
      refine nx σ x (G1.rf.wk (Nat.zero_le _)) ?_
      unfold lnBs
      rw [if_neg q, List.append_nil]
      exact hx
theorem t_717 {K636 : Nat → Nat → Int32 → Sg → Option (Nat × Sg)} {Q : Nat → Sg → Prop} {c : Nat → Int32} {p : Nat} (hp : p < 8) : ∀ (d i m : Nat) (σ : Sg) (x : Nat) (t : List Nat), i + d = nCo c p → d < m → WT c σ → StI σ x t → t.length + 6 * d ≤ 700 → (∀ τ y, G1 (fun _ => False) σ τ (40 * d + 40) → StI τ y (t ++ fm (lnCo c p) i d ++ tx 4) → Ok (K636 1024 y (nI (p + 1)) τ) Q) → Ok (DL_text_717 K636 m 1024 x (nI p) (nI i) σ) Q := by
  have b0 := nCo_b c p
  intro d
  induction d with
  | zero =>
    intro i m σ x t hi hm hW hx hl hQ
    obtain ⟨m, rfl⟩ : ∃ k, m = k + 1 := ⟨m - 1, by omega⟩
    rw [DL_text_717]
    refine ok_bnd_eq (n_coupons hW.sc p hp) ?_
    rw [if_pos (show nI (nCo c p) ≤ nI i from (nI_leI (by omega) (by omega)).mpr (by omega))]
    refine t_en hW hx (by omega) (fun τ y g e => hQ τ y (g.wk (by omega)) ?_)
    unfold fm
    rw [List.append_nil]
    exact e
  | succ d ih =>
    intro i m σ x t hi hm hW hx hl hQ
    obtain ⟨m, rfl⟩ : ∃ k, m = k + 1 := ⟨m - 1, by omega⟩
    rw [DL_text_717]
    refine ok_bnd_eq (n_coupons hW.sc p hp) ?_
    rw [if_neg (show ¬ nI (nCo c p) ≤ nI i from fun z => by have := (nI_leI (by omega) (by omega)).mp z; omega)]
    have bl := lnCo_len (c := c) (t := p) (p := i)
    refine t_co hW hx (by omega) hp (by omega) (fun τ y g e => ?_)
    refine ih (i + 1) m τ y (t ++ lnCo c p i) (by omega) (by omega) (hW.f g) e (by rw [List.length_append]; omega) (fun ω z g2 e2 => hQ ω z ((g.tr g2 (fun _ _ w => w)).wk (by omega)) ?_)
    unfold fm
    rw [← List.append_assoc]
    exact e2
theorem t_636 {Q : Nat → Sg → Prop} {c : Nat → Int32} : ∀ (d i m : Nat) (σ : Sg) (x : Nat) (t : List Nat), i + d = nTk c → d < m → WT c σ → StI σ x t → t.length + 54 * d ≤ 650 → (∀ τ y, G1 (fun _ => False) σ τ (300 * d) → StI τ y (t ++ fm (lnTk c) i d) → Q y τ) → Ok (DL_text_636 m 1024 x (nI i) σ) Q := by
  have b5 := nTk_b c
  intro d
  induction d with
  | zero =>
    intro i m σ x t hi hm hW hx hl hQ
    obtain ⟨m, rfl⟩ : ∃ k, m = k + 1 := ⟨m - 1, by omega⟩
    rw [DL_text_636]
    refine ok_bnd_eq (n_tickets hW.sc) ?_
    rw [if_pos (show nI (nTk c) ≤ nI i from (nI_leI (by omega) (by omega)).mpr (by omega))]
    unfold DL_text_809
    exact ok_some.mpr (hQ σ x (G1.rf.wk (Nat.zero_le _)) (by unfold fm; rw [List.append_nil]; exact hx))
  | succ d ih =>
    intro i m σ x t hi hm hW hx hl hQ
    obtain ⟨m, rfl⟩ : ∃ k, m = k + 1 := ⟨m - 1, by omega⟩
    rw [DL_text_636]
    refine ok_bnd_eq (n_tickets hW.sc) ?_
    rw [if_neg (show ¬ nI (nTk c) ≤ nI i from fun z => by have := (nI_leI (by omega) (by omega)).mp z; omega)]
    have bl := lnTk_len (c := c) (t := i)
    have bh := lnTh_len (c := c) (t := i)
    have bc := nCo_b c i
    refine t_tk hW hx (by omega) (by omega) (fun τ y g e => ?_)
    refine t_717 (by omega) (nCo c i) 0 FU τ y (t ++ lnTh c i) (by omega) (by unfold FU; omega) (hW.f g) e (by rw [List.length_append]; omega) (fun ω z g2 e2 => ?_)
    refine ih (i + 1) m ω z (t ++ lnTk c i) (by omega) (by omega) ((hW.f g).f g2) ?_ (by rw [List.length_append]; omega) (fun κ w g3 e3 => hQ κ w (((g.tr g2 (fun _ _ w => w)).tr g3 (fun _ _ w => w)).wk (by omega)) ?_)
    · unfold lnTk
      simpa only [List.append_assoc] using e2
    · unfold fm
      rw [← List.append_assoc]
      exact e3
theorem TX_len {c : Nat → Int32} : (TX c).length ≤ 608 := by
  have b0 := nPl_b c
  have b1 := nCa_b c
  have b2 := nBd_b c
  have b3 := nPr_b c
  have b4 := nBs_b c
  have b5 := nTk_b c
  have l0 := lnRt_len (c := c) (p := 0)
  have l1 := fm_len (f := lnPl) (b := 9) (fun _ => lnPl_len (c := c)) (nPl c) 0
  have l2 := fm_len (f := lnCa) (b := 11) (fun _ => lnCa_len (c := c)) (nCa c) 0
  have l3 := fm_len (f := lnLg c) (b := 15) (fun _ => lnLg_len) (nPl c - 1) 0
  have l4 : (if nRg c = 0 then [] else lnRg c).length ≤ 15 := by split; simp; exact lnRg_len (p := 0)
  have l5 := fm_len (f := lnBd c) (b := 15) (fun _ => lnBd_len) (nBd c) 0
  have l6 := fm_len (f := lnPr c) (b := 37) (fun _ => lnPr_len) (nPr c) 0
  have l7 := fm_len (f := lnBs c) (b := 19) (fun _ => lnBs_len) (nBs c) 0
  have l8 := fm_len (f := lnTk c) (b := 54) (fun _ => lnTk_len) (nTk c) 0
  unfold TX
  simp only [List.length_append]
  omega
theorem l_text {c : Nat → Int32} {σ : Sg} (hW : WT c σ) : Ok (DL_text 1024 σ) (fun y τ => G1 (fun _ => False) σ τ 2300 ∧ StI τ y (TX c)) := by
  have b0 := nPl_b c
  have b1 := nCa_b c
  have b2 := nBd_b c
  have b3 := nPr_b c
  have b4 := nBs_b c
  have b5 := nTk_b c
  have hT := TX_len (c := c)
  unfold TX at hT
  simp only [List.length_append] at hT
  have l0 := lnRt_len (c := c) (p := 0)
  have l1 := fm_len (f := lnPl) (b := 9) (fun _ => lnPl_len (c := c)) (nPl c) 0
  have l2 := fm_len (f := lnCa) (b := 11) (fun _ => lnCa_len (c := c)) (nCa c) 0
  have l3 := fm_len (f := lnLg c) (b := 15) (fun _ => lnLg_len) (nPl c - 1) 0
  have l4 : (if nRg c = 0 then [] else lnRg c).length ≤ 15 := by split; simp; exact lnRg_len (p := 0)
  have l5 := fm_len (f := lnBd c) (b := 15) (fun _ => lnBd_len) (nBd c) 0
  have l6 := fm_len (f := lnPr c) (b := 37) (fun _ => lnPr_len) (nPr c) 0
  have l7 := fm_len (f := lnBs c) (b := 19) (fun _ => lnBs_len) (nBs c) 0
  have fu : ∀ d, d ≤ 100 → d < FU := fun d hd => by unfold FU; omega
  refine t_rate hW (fun τ1 y1 g1 e1 => ?_)
  refine t_30 (nPl c) 0 FU τ1 y1 _ (by omega) (fu _ (by omega)) (hW.f g1) e1 (by omega) (fun τ2 y2 g2 e2 => ?_)
  have h2 := (hW.f g1).f g2
  unfold DL_text_76
  refine t_78 (nCa c) 0 FU τ2 y2 _ (by omega) (fu _ (by omega)) h2 e2 (by simp only [List.length_append]; omega) (fun τ3 y3 g3 e3 => ?_)
  have h3 := h2.f g3
  unfold DL_text_124
  refine t_126 (nPl c - 1) 0 FU τ3 y3 _ (by omega) (fu _ (by omega)) h3 e3 (by simp only [List.length_append]; omega) (fun τ4 y4 g4 e4 => ?_)
  have h4 := h3.f g4
  refine t_rg h4 e4 (by simp only [List.length_append]; omega) (fun τ5 y5 g5 e5 => ?_)
  have h5 := h4.f g5
  refine t_271 (nBd c) 0 FU τ5 y5 _ (by omega) (fu _ (by omega)) h5 e5 (by simp only [List.length_append]; omega) (fun τ6 y6 g6 e6 => ?_)
  have h6 := h5.f g6
  unfold DL_text_331
  refine t_333 (nPr c) 0 FU τ6 y6 _ (by omega) (fu _ (by omega)) h6 e6 (by simp only [List.length_append]; omega) (fun τ7 y7 g7 e7 => ?_)
  have h7 := h6.f g7
  unfold DL_text_523
  refine t_525 (nBs c) 0 FU τ7 y7 _ (by omega) (fu _ (by omega)) h7 e7 (by simp only [List.length_append]; omega) (fun τ8 y8 g8 e8 => ?_)
  have h8 := h7.f g8
  unfold DL_text_634
  refine t_636 (nTk c) 0 FU τ8 y8 _ (by omega) (fu _ (by omega)) h8 e8 (by simp only [List.length_append]; omega) (fun τ9 y9 g9 e9 => ⟨?_, ?_⟩)
  · exact ((((((((g1.tr g2 (fun _ _ w => w)).tr g3 (fun _ _ w => w)).tr g4 (fun _ _ w => w)).tr g5 (fun _ _ w => w)).tr g6 (fun _ _ w => w)).tr g7 (fun _ _ w => w)).tr g8 (fun _ _ w => w)).tr g9 (fun _ _ w => w)).wk (by omega)
  · unfold TX
    exact e9

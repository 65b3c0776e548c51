/-! reads over writes -/
theorem gI_pI (σ : Sg) (a k : Nat) (v : Int32) (x y : Nat) : gI (pI σ a k v) x y = if x = a ∧ y = k then v else gI σ x y := rfl
theorem gJ_pI (σ : Sg) (a k : Nat) (v : Int32) (x y : Nat) : gJ (pI σ a k v) x y = gJ σ x y := rfl
theorem gR_pI (σ : Sg) (a k : Nat) (v : Int32) (x y : Nat) : gR (pI σ a k v) x y = gR σ x y := rfl
theorem aI_pI (σ : Sg) (a k : Nat) (v : Int32) (x y : Nat) : aI (pI σ a k v) x y = aI σ x y := rfl
theorem aJ_pI (σ : Sg) (a k : Nat) (v : Int32) (x y : Nat) : aJ (pI σ a k v) x y = aJ σ x y := rfl
theorem aG_pI (σ : Sg) (a k : Nat) (v : Int32) (x y z : Nat) : aG (pI σ a k v) x y z = aG σ x y z := rfl
theorem gN_pI (σ : Sg) (a k : Nat) (v : Int32) : gN (pI σ a k v) = gN σ := rfl
theorem gF_pI (σ : Sg) (a k : Nat) (v : Int32) : gF (pI σ a k v) = gF σ := rfl
theorem gM_pI (σ : Sg) (a k : Nat) (v : Int32) : gM (pI σ a k v) = gM σ := rfl
theorem gZ_pI (σ : Sg) (a k : Nat) (v : Int32) : gZ (pI σ a k v) = gZ σ := rfl
theorem tl_pI (σ : Sg) (a k : Nat) (v : Int32) : tl (pI σ a k v) = tl σ := rfl
theorem gI_pJ (σ : Sg) (a k : Nat) (v : Int64) (x y : Nat) : gI (pJ σ a k v) x y = gI σ x y := rfl
theorem gJ_pJ (σ : Sg) (a k : Nat) (v : Int64) (x y : Nat) : gJ (pJ σ a k v) x y = if x = a ∧ y = k then v else gJ σ x y := rfl
theorem gR_pJ (σ : Sg) (a k : Nat) (v : Int64) (x y : Nat) : gR (pJ σ a k v) x y = gR σ x y := rfl
theorem aI_pJ (σ : Sg) (a k : Nat) (v : Int64) (x y : Nat) : aI (pJ σ a k v) x y = aI σ x y := rfl
theorem aJ_pJ (σ : Sg) (a k : Nat) (v : Int64) (x y : Nat) : aJ (pJ σ a k v) x y = aJ σ x y := rfl
theorem aG_pJ (σ : Sg) (a k : Nat) (v : Int64) (x y z : Nat) : aG (pJ σ a k v) x y z = aG σ x y z := rfl
theorem gN_pJ (σ : Sg) (a k : Nat) (v : Int64) : gN (pJ σ a k v) = gN σ := rfl
theorem gF_pJ (σ : Sg) (a k : Nat) (v : Int64) : gF (pJ σ a k v) = gF σ := rfl
theorem gM_pJ (σ : Sg) (a k : Nat) (v : Int64) : gM (pJ σ a k v) = gM σ := rfl
theorem gZ_pJ (σ : Sg) (a k : Nat) (v : Int64) : gZ (pJ σ a k v) = gZ σ := rfl
theorem tl_pJ (σ : Sg) (a k : Nat) (v : Int64) : tl (pJ σ a k v) = tl σ := rfl
theorem gI_pR (σ : Sg) (a k : Nat) (v : Nat) (x y : Nat) : gI (pR σ a k v) x y = gI σ x y := rfl
theorem gJ_pR (σ : Sg) (a k : Nat) (v : Nat) (x y : Nat) : gJ (pR σ a k v) x y = gJ σ x y := rfl
theorem gR_pR (σ : Sg) (a k : Nat) (v : Nat) (x y : Nat) : gR (pR σ a k v) x y = if x = a ∧ y = k then v else gR σ x y := rfl
theorem aI_pR (σ : Sg) (a k : Nat) (v : Nat) (x y : Nat) : aI (pR σ a k v) x y = aI σ x y := rfl
theorem aJ_pR (σ : Sg) (a k : Nat) (v : Nat) (x y : Nat) : aJ (pR σ a k v) x y = aJ σ x y := rfl
theorem aG_pR (σ : Sg) (a k : Nat) (v : Nat) (x y z : Nat) : aG (pR σ a k v) x y z = aG σ x y z := rfl
theorem gN_pR (σ : Sg) (a k : Nat) (v : Nat) : gN (pR σ a k v) = gN σ := rfl
theorem gF_pR (σ : Sg) (a k : Nat) (v : Nat) : gF (pR σ a k v) = gF σ := rfl
theorem gM_pR (σ : Sg) (a k : Nat) (v : Nat) : gM (pR σ a k v) = gM σ := rfl
theorem gZ_pR (σ : Sg) (a k : Nat) (v : Nat) : gZ (pR σ a k v) = gZ σ := rfl
theorem tl_pR (σ : Sg) (a k : Nat) (v : Nat) : tl (pR σ a k v) = tl σ := rfl
theorem gI_wI (σ : Sg) (a k : Nat) (v : Int32) (x y : Nat) : gI (wI σ a k v) x y = gI σ x y := rfl
theorem gJ_wI (σ : Sg) (a k : Nat) (v : Int32) (x y : Nat) : gJ (wI σ a k v) x y = gJ σ x y := rfl
theorem gR_wI (σ : Sg) (a k : Nat) (v : Int32) (x y : Nat) : gR (wI σ a k v) x y = gR σ x y := rfl
theorem aI_wI (σ : Sg) (a k : Nat) (v : Int32) (x y : Nat) : aI (wI σ a k v) x y = if x = a ∧ y = k then v else aI σ x y := rfl
theorem aJ_wI (σ : Sg) (a k : Nat) (v : Int32) (x y : Nat) : aJ (wI σ a k v) x y = aJ σ x y := rfl
theorem aG_wI (σ : Sg) (a k : Nat) (v : Int32) (x y z : Nat) : aG (wI σ a k v) x y z = aG σ x y z := rfl
theorem gN_wI (σ : Sg) (a k : Nat) (v : Int32) : gN (wI σ a k v) = gN σ := rfl
theorem gF_wI (σ : Sg) (a k : Nat) (v : Int32) : gF (wI σ a k v) = gF σ := rfl
theorem gM_wI (σ : Sg) (a k : Nat) (v : Int32) : gM (wI σ a k v) = gM σ := rfl
theorem gZ_wI (σ : Sg) (a k : Nat) (v : Int32) : gZ (wI σ a k v) = gZ σ := rfl
theorem tl_wI (σ : Sg) (a k : Nat) (v : Int32) : tl (wI σ a k v) = tl σ := rfl
theorem gI_wJ (σ : Sg) (a k : Nat) (v : Int64) (x y : Nat) : gI (wJ σ a k v) x y = gI σ x y := rfl
theorem gJ_wJ (σ : Sg) (a k : Nat) (v : Int64) (x y : Nat) : gJ (wJ σ a k v) x y = gJ σ x y := rfl
theorem gR_wJ (σ : Sg) (a k : Nat) (v : Int64) (x y : Nat) : gR (wJ σ a k v) x y = gR σ x y := rfl
theorem aI_wJ (σ : Sg) (a k : Nat) (v : Int64) (x y : Nat) : aI (wJ σ a k v) x y = aI σ x y := rfl
theorem aJ_wJ (σ : Sg) (a k : Nat) (v : Int64) (x y : Nat) : aJ (wJ σ a k v) x y = if x = a ∧ y = k then v else aJ σ x y := rfl
theorem aG_wJ (σ : Sg) (a k : Nat) (v : Int64) (x y z : Nat) : aG (wJ σ a k v) x y z = aG σ x y z := rfl
theorem gN_wJ (σ : Sg) (a k : Nat) (v : Int64) : gN (wJ σ a k v) = gN σ := rfl
theorem gF_wJ (σ : Sg) (a k : Nat) (v : Int64) : gF (wJ σ a k v) = gF σ := rfl
theorem gM_wJ (σ : Sg) (a k : Nat) (v : Int64) : gM (wJ σ a k v) = gM σ := rfl
theorem gZ_wJ (σ : Sg) (a k : Nat) (v : Int64) : gZ (wJ σ a k v) = gZ σ := rfl
theorem tl_wJ (σ : Sg) (a k : Nat) (v : Int64) : tl (wJ σ a k v) = tl σ := rfl
theorem gI_wG (σ : Sg) (a i k : Nat) (v : Int32) (x y : Nat) : gI (wG σ a i k v) x y = gI σ x y := rfl
theorem gJ_wG (σ : Sg) (a i k : Nat) (v : Int32) (x y : Nat) : gJ (wG σ a i k v) x y = gJ σ x y := rfl
theorem gR_wG (σ : Sg) (a i k : Nat) (v : Int32) (x y : Nat) : gR (wG σ a i k v) x y = gR σ x y := rfl
theorem aI_wG (σ : Sg) (a i k : Nat) (v : Int32) (x y : Nat) : aI (wG σ a i k v) x y = aI σ x y := rfl
theorem aJ_wG (σ : Sg) (a i k : Nat) (v : Int32) (x y : Nat) : aJ (wG σ a i k v) x y = aJ σ x y := rfl
theorem aG_wG (σ : Sg) (a i k : Nat) (v : Int32) (x y z : Nat) : aG (wG σ a i k v) x y z = if x = a ∧ y = i ∧ z = k then v else aG σ x y z := rfl
theorem gN_wG (σ : Sg) (a i k : Nat) (v : Int32) : gN (wG σ a i k v) = gN σ := rfl
theorem gF_wG (σ : Sg) (a i k : Nat) (v : Int32) : gF (wG σ a i k v) = gF σ := rfl
theorem gM_wG (σ : Sg) (a i k : Nat) (v : Int32) : gM (wG σ a i k v) = gM σ := rfl
theorem gZ_wG (σ : Sg) (a i k : Nat) (v : Int32) : gZ (wG σ a i k v) = gZ σ := rfl
theorem tl_wG (σ : Sg) (a i k : Nat) (v : Int32) : tl (wG σ a i k v) = tl σ := rfl
theorem gS_pI (σ : Sg) (a k : Nat) (v : Int32) (x : Nat) : gS (pI σ a k v) x = gS σ x := rfl
theorem gS_pJ (σ : Sg) (a k : Nat) (v : Int64) (x : Nat) : gS (pJ σ a k v) x = gS σ x := rfl
theorem gS_pR (σ : Sg) (a k : Nat) (v : Nat) (x : Nat) : gS (pR σ a k v) x = gS σ x := rfl
theorem gS_wI (σ : Sg) (a k : Nat) (v : Int32) (x : Nat) : gS (wI σ a k v) x = gS σ x := rfl
theorem gS_wJ (σ : Sg) (a k : Nat) (v : Int64) (x : Nat) : gS (wJ σ a k v) x = gS σ x := rfl
theorem gS_wG (σ : Sg) (a i k : Nat) (v : Int32) (x : Nat) : gS (wG σ a i k v) x = gS σ x := rfl
/-- what the final references hold: object, field, which -/
def frL : List (Nat × Nat × Nat) := [(3, 10, 4), (3, 11, 5), (3, 12, 6), (3, 13, 7), (3, 14, 8), (3, 15, 9), (3, 16, 10), (3, 17, 11), (3, 18, 12), (3, 19, 13), (14, 10, 15), (14, 11, 16), (14, 12, 17), (14, 13, 18), (14, 14, 19), (14, 15, 20), (14, 16, 21), (14, 17, 22), (14, 18, 23), (14, 19, 24), (25, 0, 2), (26, 0, 27), (26, 1, 28), (26, 2, 29), (26, 3, 30), (26, 4, 31), (26, 5, 32), (26, 6, 33), (26, 7, 34), (26, 8, 35), (36, 6, 37), (36, 7, 38), (36, 8, 39), (36, 9, 40), (36, 10, 41), (36, 11, 42), (36, 12, 43), (36, 13, 44), (36, 14, 45), (46, 0, 47), (46, 1, 48), (1, 0, 2), (1, 4, 25), (1, 5, 26), (1, 6, 36), (1, 7, 46), (1, 8, 49), (1, 9, 50)]
def Fin0 (σ : Sg) : Prop := gN σ = 51 ∧ ∀ q ∈ frL, gR σ q.1 q.2.1 = q.2.2
def isB (b : Nat) : Prop := b = 3 ∨ b = 14
theorem fr_25_0 {σ : Sg} (h : Fin0 σ) : gR σ 25 0 = 2 := h.2 (25, 0, 2) (by decide)
theorem fr_26_0 {σ : Sg} (h : Fin0 σ) : gR σ 26 0 = 27 := h.2 (26, 0, 27) (by decide)
theorem fr_26_1 {σ : Sg} (h : Fin0 σ) : gR σ 26 1 = 28 := h.2 (26, 1, 28) (by decide)
theorem fr_26_2 {σ : Sg} (h : Fin0 σ) : gR σ 26 2 = 29 := h.2 (26, 2, 29) (by decide)
theorem fr_26_3 {σ : Sg} (h : Fin0 σ) : gR σ 26 3 = 30 := h.2 (26, 3, 30) (by decide)
theorem fr_26_4 {σ : Sg} (h : Fin0 σ) : gR σ 26 4 = 31 := h.2 (26, 4, 31) (by decide)
theorem fr_26_5 {σ : Sg} (h : Fin0 σ) : gR σ 26 5 = 32 := h.2 (26, 5, 32) (by decide)
theorem fr_26_6 {σ : Sg} (h : Fin0 σ) : gR σ 26 6 = 33 := h.2 (26, 6, 33) (by decide)
theorem fr_26_7 {σ : Sg} (h : Fin0 σ) : gR σ 26 7 = 34 := h.2 (26, 7, 34) (by decide)
theorem fr_26_8 {σ : Sg} (h : Fin0 σ) : gR σ 26 8 = 35 := h.2 (26, 8, 35) (by decide)
theorem fr_36_6 {σ : Sg} (h : Fin0 σ) : gR σ 36 6 = 37 := h.2 (36, 6, 37) (by decide)
theorem fr_36_7 {σ : Sg} (h : Fin0 σ) : gR σ 36 7 = 38 := h.2 (36, 7, 38) (by decide)
theorem fr_36_8 {σ : Sg} (h : Fin0 σ) : gR σ 36 8 = 39 := h.2 (36, 8, 39) (by decide)
theorem fr_36_9 {σ : Sg} (h : Fin0 σ) : gR σ 36 9 = 40 := h.2 (36, 9, 40) (by decide)
theorem fr_36_10 {σ : Sg} (h : Fin0 σ) : gR σ 36 10 = 41 := h.2 (36, 10, 41) (by decide)
theorem fr_36_11 {σ : Sg} (h : Fin0 σ) : gR σ 36 11 = 42 := h.2 (36, 11, 42) (by decide)
theorem fr_36_12 {σ : Sg} (h : Fin0 σ) : gR σ 36 12 = 43 := h.2 (36, 12, 43) (by decide)
theorem fr_36_13 {σ : Sg} (h : Fin0 σ) : gR σ 36 13 = 44 := h.2 (36, 13, 44) (by decide)
theorem fr_36_14 {σ : Sg} (h : Fin0 σ) : gR σ 36 14 = 45 := h.2 (36, 14, 45) (by decide)
theorem fr_46_0 {σ : Sg} (h : Fin0 σ) : gR σ 46 0 = 47 := h.2 (46, 0, 47) (by decide)
theorem fr_46_1 {σ : Sg} (h : Fin0 σ) : gR σ 46 1 = 48 := h.2 (46, 1, 48) (by decide)
theorem fr_1_0 {σ : Sg} (h : Fin0 σ) : gR σ 1 0 = 2 := h.2 (1, 0, 2) (by decide)
theorem fr_1_4 {σ : Sg} (h : Fin0 σ) : gR σ 1 4 = 25 := h.2 (1, 4, 25) (by decide)
theorem fr_1_5 {σ : Sg} (h : Fin0 σ) : gR σ 1 5 = 26 := h.2 (1, 5, 26) (by decide)
theorem fr_1_6 {σ : Sg} (h : Fin0 σ) : gR σ 1 6 = 36 := h.2 (1, 6, 36) (by decide)
theorem fr_1_7 {σ : Sg} (h : Fin0 σ) : gR σ 1 7 = 46 := h.2 (1, 7, 46) (by decide)
theorem fr_1_8 {σ : Sg} (h : Fin0 σ) : gR σ 1 8 = 49 := h.2 (1, 8, 49) (by decide)
theorem fr_1_9 {σ : Sg} (h : Fin0 σ) : gR σ 1 9 = 50 := h.2 (1, 9, 50) (by decide)
theorem fr_b_10 {σ : Sg} {b : Nat} (h : Fin0 σ) (hb : isB b) : gR σ b 10 = b + 1 := by rcases hb with rfl | rfl; exact h.2 (3, 10, 4) (by decide); exact h.2 (14, 10, 15) (by decide)
theorem fr_b_11 {σ : Sg} {b : Nat} (h : Fin0 σ) (hb : isB b) : gR σ b 11 = b + 2 := by rcases hb with rfl | rfl; exact h.2 (3, 11, 5) (by decide); exact h.2 (14, 11, 16) (by decide)
theorem fr_b_12 {σ : Sg} {b : Nat} (h : Fin0 σ) (hb : isB b) : gR σ b 12 = b + 3 := by rcases hb with rfl | rfl; exact h.2 (3, 12, 6) (by decide); exact h.2 (14, 12, 17) (by decide)
theorem fr_b_13 {σ : Sg} {b : Nat} (h : Fin0 σ) (hb : isB b) : gR σ b 13 = b + 4 := by rcases hb with rfl | rfl; exact h.2 (3, 13, 7) (by decide); exact h.2 (14, 13, 18) (by decide)
theorem fr_b_14 {σ : Sg} {b : Nat} (h : Fin0 σ) (hb : isB b) : gR σ b 14 = b + 5 := by rcases hb with rfl | rfl; exact h.2 (3, 14, 8) (by decide); exact h.2 (14, 14, 19) (by decide)
theorem fr_b_15 {σ : Sg} {b : Nat} (h : Fin0 σ) (hb : isB b) : gR σ b 15 = b + 6 := by rcases hb with rfl | rfl; exact h.2 (3, 15, 9) (by decide); exact h.2 (14, 15, 20) (by decide)
theorem fr_b_16 {σ : Sg} {b : Nat} (h : Fin0 σ) (hb : isB b) : gR σ b 16 = b + 7 := by rcases hb with rfl | rfl; exact h.2 (3, 16, 10) (by decide); exact h.2 (14, 16, 21) (by decide)
theorem fr_b_17 {σ : Sg} {b : Nat} (h : Fin0 σ) (hb : isB b) : gR σ b 17 = b + 8 := by rcases hb with rfl | rfl; exact h.2 (3, 17, 11) (by decide); exact h.2 (14, 17, 22) (by decide)
theorem fr_b_18 {σ : Sg} {b : Nat} (h : Fin0 σ) (hb : isB b) : gR σ b 18 = b + 9 := by rcases hb with rfl | rfl; exact h.2 (3, 18, 12) (by decide); exact h.2 (14, 18, 23) (by decide)
theorem fr_b_19 {σ : Sg} {b : Nat} (h : Fin0 σ) (hb : isB b) : gR σ b 19 = b + 10 := by rcases hb with rfl | rfl; exact h.2 (3, 19, 13) (by decide); exact h.2 (14, 19, 24) (by decide)
theorem fin_pI (σ : Sg) (a k : Nat) (v : Int32) : Fin0 (pI σ a k v) = Fin0 σ := rfl
theorem fin_pJ (σ : Sg) (a k : Nat) (v : Int64) : Fin0 (pJ σ a k v) = Fin0 σ := rfl
theorem fin_wI (σ : Sg) (a k : Nat) (v : Int32) : Fin0 (wI σ a k v) = Fin0 σ := rfl
theorem fin_wJ (σ : Sg) (a k : Nat) (v : Int64) : Fin0 (wJ σ a k v) = Fin0 σ := rfl
theorem fin_wG (σ : Sg) (a i k : Nat) (v : Int32) : Fin0 (wG σ a i k v) = Fin0 σ := rfl
theorem fin_pR {σ : Sg} {a k v : Nat} (h : Fin0 σ) (hn : (frL.all fun q => !(q.1 == a && q.2.1 == k)) = true) : Fin0 (pR σ a k v) := by
  refine ⟨h.1, fun q hq => ?_⟩
  rw [gR_pR, if_neg]
  · exact h.2 q hq
  · have := List.all_eq_true.mp hn q hq
    simp only [Bool.not_eq_true', Bool.and_eq_false_iff, beq_eq_false_iff_ne] at this
    omega
theorem finN {σ : Sg} (h : Fin0 σ) : gN σ = 51 := h.1
theorem sh_b_1 {b : Nat} (hb : isB b) : shp (b + 1) = (4, 12, 0) := by rcases hb with rfl | rfl <;> rfl
theorem lt_b_1 {b : Nat} (hb : isB b) : b + 1 < 51 := by rcases hb with rfl | rfl <;> decide
theorem sh_b_2 {b : Nat} (hb : isB b) : shp (b + 2) = (4, 6, 0) := by rcases hb with rfl | rfl <;> rfl
theorem lt_b_2 {b : Nat} (hb : isB b) : b + 2 < 51 := by rcases hb with rfl | rfl <;> decide
theorem sh_b_3 {b : Nat} (hb : isB b) : shp (b + 3) = (4, 8, 0) := by rcases hb with rfl | rfl <;> rfl
theorem lt_b_3 {b : Nat} (hb : isB b) : b + 3 < 51 := by rcases hb with rfl | rfl <;> decide
theorem sh_b_4 {b : Nat} (hb : isB b) : shp (b + 4) = (5, 12, 12) := by rcases hb with rfl | rfl <;> rfl
theorem lt_b_4 {b : Nat} (hb : isB b) : b + 4 < 51 := by rcases hb with rfl | rfl <;> decide
theorem sh_b_5 {b : Nat} (hb : isB b) : shp (b + 5) = (5, 12, 12) := by rcases hb with rfl | rfl <;> rfl
theorem lt_b_5 {b : Nat} (hb : isB b) : b + 5 < 51 := by rcases hb with rfl | rfl <;> decide
theorem sh_b_6 {b : Nat} (hb : isB b) : shp (b + 6) = (5, 5, 2) := by rcases hb with rfl | rfl <;> rfl
theorem lt_b_6 {b : Nat} (hb : isB b) : b + 6 < 51 := by rcases hb with rfl | rfl <;> decide
theorem sh_b_7 {b : Nat} (hb : isB b) : shp (b + 7) = (5, 16, 6) := by rcases hb with rfl | rfl <;> rfl
theorem lt_b_7 {b : Nat} (hb : isB b) : b + 7 < 51 := by rcases hb with rfl | rfl <;> decide
theorem sh_b_8 {b : Nat} (hb : isB b) : shp (b + 8) = (5, 16, 4) := by rcases hb with rfl | rfl <;> rfl
theorem lt_b_8 {b : Nat} (hb : isB b) : b + 8 < 51 := by rcases hb with rfl | rfl <;> decide
theorem sh_b_9 {b : Nat} (hb : isB b) : shp (b + 9) = (5, 8, 11) := by rcases hb with rfl | rfl <;> rfl
theorem lt_b_9 {b : Nat} (hb : isB b) : b + 9 < 51 := by rcases hb with rfl | rfl <;> decide
theorem sh_b_10 {b : Nat} (hb : isB b) : shp (b + 10) = (5, 8, 9) := by rcases hb with rfl | rfl <;> rfl
theorem lt_b_10 {b : Nat} (hb : isB b) : b + 10 < 51 := by rcases hb with rfl | rfl <;> decide
theorem sh_b {b : Nat} (hb : isB b) : shp b = (1, 0, 0) := by rcases hb with rfl | rfl <;> rfl
theorem lt_b {b : Nat} (hb : isB b) : b < 51 := by rcases hb with rfl | rfl <;> decide
theorem nz_b {b : Nat} (hb : isB b) : ¬ b = 0 := by rcases hb with rfl | rfl <;> decide
theorem sh_1 : shp 1 = (1, 5, 0) := rfl
theorem sh_2 : shp 2 = (2, 1200, 0) := rfl
theorem sh_25 : shp 25 = (1, 2, 0) := rfl
theorem sh_26 : shp 26 = (1, 1, 0) := rfl
theorem sh_27 : shp 27 = (2, 8, 0) := rfl
theorem sh_28 : shp 28 = (2, 8, 0) := rfl
theorem sh_29 : shp 29 = (3, 8, 0) := rfl
theorem sh_30 : shp 30 = (5, 8, 8) := rfl
theorem sh_31 : shp 31 = (5, 8, 8) := rfl
theorem sh_32 : shp 32 = (5, 6, 6) := rfl
theorem sh_33 : shp 33 = (2, 6, 0) := rfl
theorem sh_34 : shp 34 = (5, 14, 4) := rfl
theorem sh_35 : shp 35 = (5, 14, 36) := rfl
theorem sh_36 : shp 36 = (1, 4, 0) := rfl
theorem sh_37 : shp 37 = (2, 8, 0) := rfl
theorem sh_38 : shp 38 = (2, 8, 0) := rfl
theorem sh_39 : shp 39 = (2, 8, 0) := rfl
theorem sh_40 : shp 40 = (2, 8, 0) := rfl
theorem sh_41 : shp 41 = (4, 8, 0) := rfl
theorem sh_42 : shp 42 = (4, 8, 0) := rfl
theorem sh_43 : shp 43 = (2, 8, 0) := rfl
theorem sh_44 : shp 44 = (4, 8, 0) := rfl
theorem sh_45 : shp 45 = (3, 8, 0) := rfl
theorem sh_46 : shp 46 = (1, 3, 0) := rfl
theorem sh_47 : shp 47 = (2, 6, 0) := rfl
theorem sh_48 : shp 48 = (5, 6, 3) := rfl
theorem sh_49 : shp 49 = (2, 8, 0) := rfl
theorem sh_50 : shp 50 = (2, 6, 0) := rfl
/-! a run of the functions that comes to an answer -/
def Ok {α : Type} (d : Option (α × Sg)) (Q : α → Sg → Prop) : Prop := ∃ (r : α) (σ : Sg), d = some (r, σ) ∧ Q r σ
theorem Ok.mono {α : Type} {d : Option (α × Sg)} {Q Q' : α → Sg → Prop} (h : Ok d Q) (k : ∀ r σ, Q r σ → Q' r σ) : Ok d Q' := by
  obtain ⟨r, σ, h1, h2⟩ := h
  exact ⟨r, σ, h1, k r σ h2⟩
theorem ok_chk {α : Type} {b : Bool} {x : Option (α × Sg)} {Q : α → Sg → Prop} : Ok (chk b x) Q ↔ b = true ∧ Ok x Q := by
  cases b
  · exact ⟨fun ⟨r, σ, h, _⟩ => (by cases h), fun h => (by cases h.1)⟩
  · exact ⟨fun h => ⟨rfl, h⟩, fun h => h.2⟩
theorem ok_let {α : Type} {x : Sg} {k : Sg → Option (α × Sg)} {Q : α → Sg → Prop} : Ok (wlet x k) Q ↔ Ok (k x) Q := Iff.rfl
theorem ok_some {α : Type} {r : α} {σ : Sg} {Q : α → Sg → Prop} : Ok (some (r, σ)) Q ↔ Q r σ := by
  refine ⟨fun ⟨r2, σ2, h, q⟩ => ?_, fun h => ⟨r, σ, rfl, h⟩⟩
  cases h
  exact q
theorem ok_if {α : Type} {c : Prop} [Decidable c] {x y : Option (α × Sg)} {Q : α → Sg → Prop} : Ok (if c then x else y) Q ↔ (c → Ok x Q) ∧ (¬ c → Ok y Q) := by
  by_cases h : c
  · rw [if_pos h]; exact ⟨fun k => ⟨fun _ => k, fun z => absurd h z⟩, fun k => k.1 h⟩
  · rw [if_neg h]; exact ⟨fun k => ⟨fun z => absurd z h, fun _ => k⟩, fun k => k.2 h⟩
theorem ok_bnd {α β : Type} {d : Option (α × Sg)} {k : α → Sg → Option (β × Sg)} {Q1 : α → Sg → Prop} {Q : β → Sg → Prop} (h : Ok d Q1) (kk : ∀ r σ, Q1 r σ → Ok (k r σ) Q) : Ok (bnd d k) Q := by
  obtain ⟨r, σ, h1, h2⟩ := h
  rw [h1]
  exact kk r σ h2
theorem ok_bnd_eq {α β : Type} {d : Option (α × Sg)} {k : α → Sg → Option (β × Sg)} {r : α} {σ : Sg} {Q : β → Sg → Prop} (h : d = some (r, σ)) (kk : Ok (k r σ) Q) : Ok (bnd d k) Q := by
  rw [h]
  exact kk
theorem bnd_some {α β : Type} {k : α → Sg → Option β} {r : α} {σ : Sg} : bnd (some (r, σ)) k = k r σ := rfl
theorem chk_true {α : Type} {x : Option α} : chk true x = x := rfl
theorem wlet_eq {α : Type} {x : Sg} {k : Sg → α} : wlet x k = k x := rfl
/-! numbers -/
theorem inb_nI {i n : Nat} (h : i < n) (hn : n < 2 ^ 31) : inb (nI i) n = true := by
  unfold inb
  rw [nI_clamp (by omega)]
  simp only [Bool.and_eq_true, decide_eq_true_eq]
  exact ⟨nI_pos' (by omega), h⟩
theorem nI_of0 {x : Int32} (h : 0 ≤ x) : x = nI x.toNatClampNeg := by
  rw [Int32.le_iff_toInt_le] at h
  have h0 : (0 : Int32).toInt = 0 := by decide
  rw [h0] at h
  apply Int32.toInt_inj.mp
  have h2 : x.toNatClampNeg < 2 ^ 31 := by
    have := Int32.toInt_lt x
    unfold Int32.toNatClampNeg
    omega
  rw [nI_toInt h2]
  unfold Int32.toNatClampNeg
  omega
theorem lit_nI (n : Nat) : (OfNat.ofNat n : Int32) = nI n := rfl
theorem ix_nI {n : Nat} (h : n < 2 ^ 31) : (nI n).toNatClampNeg = n := nI_clamp h
theorem fu_pos {k : Nat} (h : k < 4096) : ∃ n, FU = k + 1 + n := ⟨4096 - k - 1, by unfold FU; omega⟩

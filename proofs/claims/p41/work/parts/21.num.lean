theorem le_nI {a b : Nat} (ha : a < 2147483648) (hb : b < 2147483648) : (nI a ≤ nI b) = (a ≤ b) := propext (nI_leI ha hb)
theorem lt_nI {a b : Nat} (ha : a < 2147483648) (hb : b < 2147483648) : (nI a < nI b) = (a < b) := propext (nI_ltI ha hb)
theorem eq_nI {a b : Nat} (ha : a < 2147483648) (hb : b < 2147483648) : (nI a = nI b) = (a = b) := propext (nI_eq ha hb)
theorem ixn {n : Nat} (h : n < 2147483648) : (nI n).toNatClampNeg = n := nI_clamp h
theorem inbn {i n : Nat} (h : i < n) (hn : n < 2147483648) : inb (nI i) n = true := inb_nI h hn
theorem nI_lit0 : (0 : Int32) = nI 0 := rfl
theorem inb_l {k : Int32} {n : Nat} (h0 : 0 ≤ k) (h : k.toNatClampNeg < n) : inb k n = true := by
  unfold inb
  simp only [Bool.and_eq_true, decide_eq_true_eq]
  exact ⟨h0, h⟩
theorem mul_nI_2 (i : Nat) : (2 : Int32) * nI i = nI (2 * i) := pk_mul 2 i
theorem mul_nI_3 (i : Nat) : (3 : Int32) * nI i = nI (3 * i) := pk_mul 3 i
theorem mul_nI_4 (i : Nat) : (4 : Int32) * nI i = nI (4 * i) := pk_mul 4 i
theorem mul_nI_6 (i : Nat) : (6 : Int32) * nI i = nI (6 * i) := pk_mul 6 i
theorem mul_nI_8 (i : Nat) : (8 : Int32) * nI i = nI (8 * i) := pk_mul 8 i
theorem mul_nI_10 (i : Nat) : (10 : Int32) * nI i = nI (10 * i) := pk_mul 10 i
theorem mul_nI_11 (i : Nat) : (11 : Int32) * nI i = nI (11 * i) := pk_mul 11 i
theorem mul_nI_12 (i : Nat) : (12 : Int32) * nI i = nI (12 * i) := pk_mul 12 i
theorem mul_nI_27 (i : Nat) : (27 : Int32) * nI i = nI (27 * i) := pk_mul 27 i
theorem mul_nI_36 (i : Nat) : (36 : Int32) * nI i = nI (36 * i) := pk_mul 36 i
theorem mul_nI_242 (i : Nat) : (242 : Int32) * nI i = nI (242 * i) := pk_mul 242 i
theorem add_nI_0 (i : Nat) : nI i + (0 : Int32) = nI (i + 0) := nI_add i 0
theorem dda_nI_0 (i : Nat) : (0 : Int32) + nI i = nI (0 + i) := nI_add 0 i
theorem add_nI_1 (i : Nat) : nI i + (1 : Int32) = nI (i + 1) := nI_add i 1
theorem dda_nI_1 (i : Nat) : (1 : Int32) + nI i = nI (1 + i) := nI_add 1 i
theorem add_nI_2 (i : Nat) : nI i + (2 : Int32) = nI (i + 2) := nI_add i 2
theorem dda_nI_2 (i : Nat) : (2 : Int32) + nI i = nI (2 + i) := nI_add 2 i
theorem add_nI_3 (i : Nat) : nI i + (3 : Int32) = nI (i + 3) := nI_add i 3
theorem dda_nI_3 (i : Nat) : (3 : Int32) + nI i = nI (3 + i) := nI_add 3 i
theorem add_nI_4 (i : Nat) : nI i + (4 : Int32) = nI (i + 4) := nI_add i 4
theorem dda_nI_4 (i : Nat) : (4 : Int32) + nI i = nI (4 + i) := nI_add 4 i
theorem add_nI_5 (i : Nat) : nI i + (5 : Int32) = nI (i + 5) := nI_add i 5
theorem dda_nI_5 (i : Nat) : (5 : Int32) + nI i = nI (5 + i) := nI_add 5 i
theorem add_nI_6 (i : Nat) : nI i + (6 : Int32) = nI (i + 6) := nI_add i 6
theorem dda_nI_6 (i : Nat) : (6 : Int32) + nI i = nI (6 + i) := nI_add 6 i
theorem add_nI_8 (i : Nat) : nI i + (8 : Int32) = nI (i + 8) := nI_add i 8
theorem dda_nI_8 (i : Nat) : (8 : Int32) + nI i = nI (8 + i) := nI_add 8 i
theorem add_nI_12 (i : Nat) : nI i + (12 : Int32) = nI (i + 12) := nI_add i 12
theorem dda_nI_12 (i : Nat) : (12 : Int32) + nI i = nI (12 + i) := nI_add 12 i
theorem add_nI_64 (i : Nat) : nI i + (64 : Int32) = nI (i + 64) := nI_add i 64
theorem dda_nI_64 (i : Nat) : (64 : Int32) + nI i = nI (64 + i) := nI_add 64 i
theorem add_nI_128 (i : Nat) : nI i + (128 : Int32) = nI (i + 128) := nI_add i 128
theorem dda_nI_128 (i : Nat) : (128 : Int32) + nI i = nI (128 + i) := nI_add 128 i
theorem add_nI_192 (i : Nat) : nI i + (192 : Int32) = nI (i + 192) := nI_add i 192
theorem dda_nI_192 (i : Nat) : (192 : Int32) + nI i = nI (192 + i) := nI_add 192 i
theorem add_nI_228 (i : Nat) : nI i + (228 : Int32) = nI (i + 228) := nI_add i 228
theorem dda_nI_228 (i : Nat) : (228 : Int32) + nI i = nI (228 + i) := nI_add 228 i
theorem add_nI_234 (i : Nat) : nI i + (234 : Int32) = nI (i + 234) := nI_add i 234
theorem dda_nI_234 (i : Nat) : (234 : Int32) + nI i = nI (234 + i) := nI_add 234 i
theorem add_nI_242 (i : Nat) : nI i + (242 : Int32) = nI (i + 242) := nI_add i 242
theorem dda_nI_242 (i : Nat) : (242 : Int32) + nI i = nI (242 + i) := nI_add 242 i
theorem sub_nI_1 {i : Nat} (h : 1 ≤ i) : nI i - (1 : Int32) = nI (i - 1) := pk_sub h
theorem sub_nI_2 {i : Nat} (h : 2 ≤ i) : nI i - (2 : Int32) = nI (i - 2) := pk_sub h
theorem sub_nI_20 {i : Nat} (h : 20 ≤ i) : nI i - (20 : Int32) = nI (i - 20) := pk_sub h
theorem sub_nI_242 {i : Nat} (h : 242 ≤ i) : nI i - (242 : Int32) = nI (i - 242) := pk_sub h
theorem inb_0 {n : Nat} (h : 0 < n) : inb 0 n = true := inb_l (by decide) h
theorem ixl_0 : (0 : Int32).toNatClampNeg = 0 := by decide
theorem inb_1 {n : Nat} (h : 1 < n) : inb 1 n = true := inb_l (by decide) h
theorem ixl_1 : (1 : Int32).toNatClampNeg = 1 := by decide
theorem inb_2 {n : Nat} (h : 2 < n) : inb 2 n = true := inb_l (by decide) h
theorem ixl_2 : (2 : Int32).toNatClampNeg = 2 := by decide
theorem inb_3 {n : Nat} (h : 3 < n) : inb 3 n = true := inb_l (by decide) h
theorem ixl_3 : (3 : Int32).toNatClampNeg = 3 := by decide
theorem inb_4 {n : Nat} (h : 4 < n) : inb 4 n = true := inb_l (by decide) h
theorem ixl_4 : (4 : Int32).toNatClampNeg = 4 := by decide
theorem inb_5 {n : Nat} (h : 5 < n) : inb 5 n = true := inb_l (by decide) h
theorem ixl_5 : (5 : Int32).toNatClampNeg = 5 := by decide
theorem inb_6 {n : Nat} (h : 6 < n) : inb 6 n = true := inb_l (by decide) h
theorem ixl_6 : (6 : Int32).toNatClampNeg = 6 := by decide
theorem inb_7 {n : Nat} (h : 7 < n) : inb 7 n = true := inb_l (by decide) h
theorem ixl_7 : (7 : Int32).toNatClampNeg = 7 := by decide
theorem inb_8 {n : Nat} (h : 8 < n) : inb 8 n = true := inb_l (by decide) h
theorem ixl_8 : (8 : Int32).toNatClampNeg = 8 := by decide
theorem inb_9 {n : Nat} (h : 9 < n) : inb 9 n = true := inb_l (by decide) h
theorem ixl_9 : (9 : Int32).toNatClampNeg = 9 := by decide
theorem inb_10 {n : Nat} (h : 10 < n) : inb 10 n = true := inb_l (by decide) h
theorem ixl_10 : (10 : Int32).toNatClampNeg = 10 := by decide
theorem inb_11 {n : Nat} (h : 11 < n) : inb 11 n = true := inb_l (by decide) h
theorem ixl_11 : (11 : Int32).toNatClampNeg = 11 := by decide
theorem le_l0 {i : Nat} (h : i < 2147483648) : (nI i ≤ (0 : Int32)) = (i ≤ 0) := le_nI h (by decide)
theorem l0_le {i : Nat} (h : i < 2147483648) : ((0 : Int32) ≤ nI i) = (0 ≤ i) := le_nI (by decide) h
theorem lt_l0 {i : Nat} (h : i < 2147483648) : (nI i < (0 : Int32)) = (i < 0) := lt_nI h (by decide)
theorem l0_lt {i : Nat} (h : i < 2147483648) : ((0 : Int32) < nI i) = (0 < i) := lt_nI (by decide) h
theorem eq_l0 {i : Nat} (h : i < 2147483648) : (nI i = (0 : Int32)) = (i = 0) := eq_nI h (by decide)
theorem l0_eq {i : Nat} (h : i < 2147483648) : ((0 : Int32) = nI i) = (0 = i) := eq_nI (by decide) h
theorem le_l1 {i : Nat} (h : i < 2147483648) : (nI i ≤ (1 : Int32)) = (i ≤ 1) := le_nI h (by decide)
theorem l1_le {i : Nat} (h : i < 2147483648) : ((1 : Int32) ≤ nI i) = (1 ≤ i) := le_nI (by decide) h
theorem lt_l1 {i : Nat} (h : i < 2147483648) : (nI i < (1 : Int32)) = (i < 1) := lt_nI h (by decide)
theorem l1_lt {i : Nat} (h : i < 2147483648) : ((1 : Int32) < nI i) = (1 < i) := lt_nI (by decide) h
theorem eq_l1 {i : Nat} (h : i < 2147483648) : (nI i = (1 : Int32)) = (i = 1) := eq_nI h (by decide)
theorem l1_eq {i : Nat} (h : i < 2147483648) : ((1 : Int32) = nI i) = (1 = i) := eq_nI (by decide) h
theorem le_l2 {i : Nat} (h : i < 2147483648) : (nI i ≤ (2 : Int32)) = (i ≤ 2) := le_nI h (by decide)
theorem l2_le {i : Nat} (h : i < 2147483648) : ((2 : Int32) ≤ nI i) = (2 ≤ i) := le_nI (by decide) h
theorem lt_l2 {i : Nat} (h : i < 2147483648) : (nI i < (2 : Int32)) = (i < 2) := lt_nI h (by decide)
theorem l2_lt {i : Nat} (h : i < 2147483648) : ((2 : Int32) < nI i) = (2 < i) := lt_nI (by decide) h
theorem eq_l2 {i : Nat} (h : i < 2147483648) : (nI i = (2 : Int32)) = (i = 2) := eq_nI h (by decide)
theorem l2_eq {i : Nat} (h : i < 2147483648) : ((2 : Int32) = nI i) = (2 = i) := eq_nI (by decide) h
theorem le_l3 {i : Nat} (h : i < 2147483648) : (nI i ≤ (3 : Int32)) = (i ≤ 3) := le_nI h (by decide)
theorem l3_le {i : Nat} (h : i < 2147483648) : ((3 : Int32) ≤ nI i) = (3 ≤ i) := le_nI (by decide) h
theorem lt_l3 {i : Nat} (h : i < 2147483648) : (nI i < (3 : Int32)) = (i < 3) := lt_nI h (by decide)
theorem l3_lt {i : Nat} (h : i < 2147483648) : ((3 : Int32) < nI i) = (3 < i) := lt_nI (by decide) h
theorem eq_l3 {i : Nat} (h : i < 2147483648) : (nI i = (3 : Int32)) = (i = 3) := eq_nI h (by decide)
theorem l3_eq {i : Nat} (h : i < 2147483648) : ((3 : Int32) = nI i) = (3 = i) := eq_nI (by decide) h
theorem le_l4 {i : Nat} (h : i < 2147483648) : (nI i ≤ (4 : Int32)) = (i ≤ 4) := le_nI h (by decide)
theorem l4_le {i : Nat} (h : i < 2147483648) : ((4 : Int32) ≤ nI i) = (4 ≤ i) := le_nI (by decide) h
theorem lt_l4 {i : Nat} (h : i < 2147483648) : (nI i < (4 : Int32)) = (i < 4) := lt_nI h (by decide)
theorem l4_lt {i : Nat} (h : i < 2147483648) : ((4 : Int32) < nI i) = (4 < i) := lt_nI (by decide) h
theorem eq_l4 {i : Nat} (h : i < 2147483648) : (nI i = (4 : Int32)) = (i = 4) := eq_nI h (by decide)
theorem l4_eq {i : Nat} (h : i < 2147483648) : ((4 : Int32) = nI i) = (4 = i) := eq_nI (by decide) h
theorem le_l5 {i : Nat} (h : i < 2147483648) : (nI i ≤ (5 : Int32)) = (i ≤ 5) := le_nI h (by decide)
theorem l5_le {i : Nat} (h : i < 2147483648) : ((5 : Int32) ≤ nI i) = (5 ≤ i) := le_nI (by decide) h
theorem lt_l5 {i : Nat} (h : i < 2147483648) : (nI i < (5 : Int32)) = (i < 5) := lt_nI h (by decide)
theorem l5_lt {i : Nat} (h : i < 2147483648) : ((5 : Int32) < nI i) = (5 < i) := lt_nI (by decide) h
theorem eq_l5 {i : Nat} (h : i < 2147483648) : (nI i = (5 : Int32)) = (i = 5) := eq_nI h (by decide)
theorem l5_eq {i : Nat} (h : i < 2147483648) : ((5 : Int32) = nI i) = (5 = i) := eq_nI (by decide) h
theorem le_l6 {i : Nat} (h : i < 2147483648) : (nI i ≤ (6 : Int32)) = (i ≤ 6) := le_nI h (by decide)
theorem l6_le {i : Nat} (h : i < 2147483648) : ((6 : Int32) ≤ nI i) = (6 ≤ i) := le_nI (by decide) h
theorem lt_l6 {i : Nat} (h : i < 2147483648) : (nI i < (6 : Int32)) = (i < 6) := lt_nI h (by decide)
theorem l6_lt {i : Nat} (h : i < 2147483648) : ((6 : Int32) < nI i) = (6 < i) := lt_nI (by decide) h
theorem eq_l6 {i : Nat} (h : i < 2147483648) : (nI i = (6 : Int32)) = (i = 6) := eq_nI h (by decide)
theorem l6_eq {i : Nat} (h : i < 2147483648) : ((6 : Int32) = nI i) = (6 = i) := eq_nI (by decide) h
theorem le_l8 {i : Nat} (h : i < 2147483648) : (nI i ≤ (8 : Int32)) = (i ≤ 8) := le_nI h (by decide)
theorem l8_le {i : Nat} (h : i < 2147483648) : ((8 : Int32) ≤ nI i) = (8 ≤ i) := le_nI (by decide) h
theorem lt_l8 {i : Nat} (h : i < 2147483648) : (nI i < (8 : Int32)) = (i < 8) := lt_nI h (by decide)
theorem l8_lt {i : Nat} (h : i < 2147483648) : ((8 : Int32) < nI i) = (8 < i) := lt_nI (by decide) h
theorem eq_l8 {i : Nat} (h : i < 2147483648) : (nI i = (8 : Int32)) = (i = 8) := eq_nI h (by decide)
theorem l8_eq {i : Nat} (h : i < 2147483648) : ((8 : Int32) = nI i) = (8 = i) := eq_nI (by decide) h
theorem le_l9 {i : Nat} (h : i < 2147483648) : (nI i ≤ (9 : Int32)) = (i ≤ 9) := le_nI h (by decide)
theorem l9_le {i : Nat} (h : i < 2147483648) : ((9 : Int32) ≤ nI i) = (9 ≤ i) := le_nI (by decide) h
theorem lt_l9 {i : Nat} (h : i < 2147483648) : (nI i < (9 : Int32)) = (i < 9) := lt_nI h (by decide)
theorem l9_lt {i : Nat} (h : i < 2147483648) : ((9 : Int32) < nI i) = (9 < i) := lt_nI (by decide) h
theorem eq_l9 {i : Nat} (h : i < 2147483648) : (nI i = (9 : Int32)) = (i = 9) := eq_nI h (by decide)
theorem l9_eq {i : Nat} (h : i < 2147483648) : ((9 : Int32) = nI i) = (9 = i) := eq_nI (by decide) h
theorem le_l10 {i : Nat} (h : i < 2147483648) : (nI i ≤ (10 : Int32)) = (i ≤ 10) := le_nI h (by decide)
theorem l10_le {i : Nat} (h : i < 2147483648) : ((10 : Int32) ≤ nI i) = (10 ≤ i) := le_nI (by decide) h
theorem lt_l10 {i : Nat} (h : i < 2147483648) : (nI i < (10 : Int32)) = (i < 10) := lt_nI h (by decide)
theorem l10_lt {i : Nat} (h : i < 2147483648) : ((10 : Int32) < nI i) = (10 < i) := lt_nI (by decide) h
theorem eq_l10 {i : Nat} (h : i < 2147483648) : (nI i = (10 : Int32)) = (i = 10) := eq_nI h (by decide)
theorem l10_eq {i : Nat} (h : i < 2147483648) : ((10 : Int32) = nI i) = (10 = i) := eq_nI (by decide) h
theorem le_l11 {i : Nat} (h : i < 2147483648) : (nI i ≤ (11 : Int32)) = (i ≤ 11) := le_nI h (by decide)
theorem l11_le {i : Nat} (h : i < 2147483648) : ((11 : Int32) ≤ nI i) = (11 ≤ i) := le_nI (by decide) h
theorem lt_l11 {i : Nat} (h : i < 2147483648) : (nI i < (11 : Int32)) = (i < 11) := lt_nI h (by decide)
theorem l11_lt {i : Nat} (h : i < 2147483648) : ((11 : Int32) < nI i) = (11 < i) := lt_nI (by decide) h
theorem eq_l11 {i : Nat} (h : i < 2147483648) : (nI i = (11 : Int32)) = (i = 11) := eq_nI h (by decide)
theorem l11_eq {i : Nat} (h : i < 2147483648) : ((11 : Int32) = nI i) = (11 = i) := eq_nI (by decide) h
theorem le_l12 {i : Nat} (h : i < 2147483648) : (nI i ≤ (12 : Int32)) = (i ≤ 12) := le_nI h (by decide)
theorem l12_le {i : Nat} (h : i < 2147483648) : ((12 : Int32) ≤ nI i) = (12 ≤ i) := le_nI (by decide) h
theorem lt_l12 {i : Nat} (h : i < 2147483648) : (nI i < (12 : Int32)) = (i < 12) := lt_nI h (by decide)
theorem l12_lt {i : Nat} (h : i < 2147483648) : ((12 : Int32) < nI i) = (12 < i) := lt_nI (by decide) h
theorem eq_l12 {i : Nat} (h : i < 2147483648) : (nI i = (12 : Int32)) = (i = 12) := eq_nI h (by decide)
theorem l12_eq {i : Nat} (h : i < 2147483648) : ((12 : Int32) = nI i) = (12 = i) := eq_nI (by decide) h
theorem le_l14 {i : Nat} (h : i < 2147483648) : (nI i ≤ (14 : Int32)) = (i ≤ 14) := le_nI h (by decide)
theorem l14_le {i : Nat} (h : i < 2147483648) : ((14 : Int32) ≤ nI i) = (14 ≤ i) := le_nI (by decide) h
theorem lt_l14 {i : Nat} (h : i < 2147483648) : (nI i < (14 : Int32)) = (i < 14) := lt_nI h (by decide)
theorem l14_lt {i : Nat} (h : i < 2147483648) : ((14 : Int32) < nI i) = (14 < i) := lt_nI (by decide) h
theorem eq_l14 {i : Nat} (h : i < 2147483648) : (nI i = (14 : Int32)) = (i = 14) := eq_nI h (by decide)
theorem l14_eq {i : Nat} (h : i < 2147483648) : ((14 : Int32) = nI i) = (14 = i) := eq_nI (by decide) h
theorem le_l16 {i : Nat} (h : i < 2147483648) : (nI i ≤ (16 : Int32)) = (i ≤ 16) := le_nI h (by decide)
theorem l16_le {i : Nat} (h : i < 2147483648) : ((16 : Int32) ≤ nI i) = (16 ≤ i) := le_nI (by decide) h
theorem lt_l16 {i : Nat} (h : i < 2147483648) : (nI i < (16 : Int32)) = (i < 16) := lt_nI h (by decide)
theorem l16_lt {i : Nat} (h : i < 2147483648) : ((16 : Int32) < nI i) = (16 < i) := lt_nI (by decide) h
theorem eq_l16 {i : Nat} (h : i < 2147483648) : (nI i = (16 : Int32)) = (i = 16) := eq_nI h (by decide)
theorem l16_eq {i : Nat} (h : i < 2147483648) : ((16 : Int32) = nI i) = (16 = i) := eq_nI (by decide) h
theorem le_l20 {i : Nat} (h : i < 2147483648) : (nI i ≤ (20 : Int32)) = (i ≤ 20) := le_nI h (by decide)
theorem l20_le {i : Nat} (h : i < 2147483648) : ((20 : Int32) ≤ nI i) = (20 ≤ i) := le_nI (by decide) h
theorem lt_l20 {i : Nat} (h : i < 2147483648) : (nI i < (20 : Int32)) = (i < 20) := lt_nI h (by decide)
theorem l20_lt {i : Nat} (h : i < 2147483648) : ((20 : Int32) < nI i) = (20 < i) := lt_nI (by decide) h
theorem eq_l20 {i : Nat} (h : i < 2147483648) : (nI i = (20 : Int32)) = (i = 20) := eq_nI h (by decide)
theorem l20_eq {i : Nat} (h : i < 2147483648) : ((20 : Int32) = nI i) = (20 = i) := eq_nI (by decide) h
theorem le_l24 {i : Nat} (h : i < 2147483648) : (nI i ≤ (24 : Int32)) = (i ≤ 24) := le_nI h (by decide)
theorem l24_le {i : Nat} (h : i < 2147483648) : ((24 : Int32) ≤ nI i) = (24 ≤ i) := le_nI (by decide) h
theorem lt_l24 {i : Nat} (h : i < 2147483648) : (nI i < (24 : Int32)) = (i < 24) := lt_nI h (by decide)
theorem l24_lt {i : Nat} (h : i < 2147483648) : ((24 : Int32) < nI i) = (24 < i) := lt_nI (by decide) h
theorem eq_l24 {i : Nat} (h : i < 2147483648) : (nI i = (24 : Int32)) = (i = 24) := eq_nI h (by decide)
theorem l24_eq {i : Nat} (h : i < 2147483648) : ((24 : Int32) = nI i) = (24 = i) := eq_nI (by decide) h
theorem le_l64 {i : Nat} (h : i < 2147483648) : (nI i ≤ (64 : Int32)) = (i ≤ 64) := le_nI h (by decide)
theorem l64_le {i : Nat} (h : i < 2147483648) : ((64 : Int32) ≤ nI i) = (64 ≤ i) := le_nI (by decide) h
theorem lt_l64 {i : Nat} (h : i < 2147483648) : (nI i < (64 : Int32)) = (i < 64) := lt_nI h (by decide)
theorem l64_lt {i : Nat} (h : i < 2147483648) : ((64 : Int32) < nI i) = (64 < i) := lt_nI (by decide) h
theorem eq_l64 {i : Nat} (h : i < 2147483648) : (nI i = (64 : Int32)) = (i = 64) := eq_nI h (by decide)
theorem l64_eq {i : Nat} (h : i < 2147483648) : ((64 : Int32) = nI i) = (64 = i) := eq_nI (by decide) h
theorem le_l72 {i : Nat} (h : i < 2147483648) : (nI i ≤ (72 : Int32)) = (i ≤ 72) := le_nI h (by decide)
theorem l72_le {i : Nat} (h : i < 2147483648) : ((72 : Int32) ≤ nI i) = (72 ≤ i) := le_nI (by decide) h
theorem lt_l72 {i : Nat} (h : i < 2147483648) : (nI i < (72 : Int32)) = (i < 72) := lt_nI h (by decide)
theorem l72_lt {i : Nat} (h : i < 2147483648) : ((72 : Int32) < nI i) = (72 < i) := lt_nI (by decide) h
theorem eq_l72 {i : Nat} (h : i < 2147483648) : (nI i = (72 : Int32)) = (i = 72) := eq_nI h (by decide)
theorem l72_eq {i : Nat} (h : i < 2147483648) : ((72 : Int32) = nI i) = (72 = i) := eq_nI (by decide) h
theorem le_l242 {i : Nat} (h : i < 2147483648) : (nI i ≤ (242 : Int32)) = (i ≤ 242) := le_nI h (by decide)
theorem l242_le {i : Nat} (h : i < 2147483648) : ((242 : Int32) ≤ nI i) = (242 ≤ i) := le_nI (by decide) h
theorem lt_l242 {i : Nat} (h : i < 2147483648) : (nI i < (242 : Int32)) = (i < 242) := lt_nI h (by decide)
theorem l242_lt {i : Nat} (h : i < 2147483648) : ((242 : Int32) < nI i) = (242 < i) := lt_nI (by decide) h
theorem eq_l242 {i : Nat} (h : i < 2147483648) : (nI i = (242 : Int32)) = (i = 242) := eq_nI h (by decide)
theorem l242_eq {i : Nat} (h : i < 2147483648) : ((242 : Int32) = nI i) = (242 = i) := eq_nI (by decide) h
theorem le_l1180 {i : Nat} (h : i < 2147483648) : (nI i ≤ (1180 : Int32)) = (i ≤ 1180) := le_nI h (by decide)
theorem l1180_le {i : Nat} (h : i < 2147483648) : ((1180 : Int32) ≤ nI i) = (1180 ≤ i) := le_nI (by decide) h
theorem lt_l1180 {i : Nat} (h : i < 2147483648) : (nI i < (1180 : Int32)) = (i < 1180) := lt_nI h (by decide)
theorem l1180_lt {i : Nat} (h : i < 2147483648) : ((1180 : Int32) < nI i) = (1180 < i) := lt_nI (by decide) h
theorem eq_l1180 {i : Nat} (h : i < 2147483648) : (nI i = (1180 : Int32)) = (i = 1180) := eq_nI h (by decide)
theorem l1180_eq {i : Nat} (h : i < 2147483648) : ((1180 : Int32) = nI i) = (1180 = i) := eq_nI (by decide) h
theorem le_l1200 {i : Nat} (h : i < 2147483648) : (nI i ≤ (1200 : Int32)) = (i ≤ 1200) := le_nI h (by decide)
theorem l1200_le {i : Nat} (h : i < 2147483648) : ((1200 : Int32) ≤ nI i) = (1200 ≤ i) := le_nI (by decide) h
theorem lt_l1200 {i : Nat} (h : i < 2147483648) : (nI i < (1200 : Int32)) = (i < 1200) := lt_nI h (by decide)
theorem l1200_lt {i : Nat} (h : i < 2147483648) : ((1200 : Int32) < nI i) = (1200 < i) := lt_nI (by decide) h
theorem eq_l1200 {i : Nat} (h : i < 2147483648) : (nI i = (1200 : Int32)) = (i = 1200) := eq_nI h (by decide)
theorem l1200_eq {i : Nat} (h : i < 2147483648) : ((1200 : Int32) = nI i) = (1200 = i) := eq_nI (by decide) h
theorem le_l3388 {i : Nat} (h : i < 2147483648) : (nI i ≤ (3388 : Int32)) = (i ≤ 3388) := le_nI h (by decide)
theorem l3388_le {i : Nat} (h : i < 2147483648) : ((3388 : Int32) ≤ nI i) = (3388 ≤ i) := le_nI (by decide) h
theorem lt_l3388 {i : Nat} (h : i < 2147483648) : (nI i < (3388 : Int32)) = (i < 3388) := lt_nI h (by decide)
theorem l3388_lt {i : Nat} (h : i < 2147483648) : ((3388 : Int32) < nI i) = (3388 < i) := lt_nI (by decide) h
theorem eq_l3388 {i : Nat} (h : i < 2147483648) : (nI i = (3388 : Int32)) = (i = 3388) := eq_nI h (by decide)
theorem l3388_eq {i : Nat} (h : i < 2147483648) : ((3388 : Int32) = nI i) = (3388 = i) := eq_nI (by decide) h
theorem le_l200000 {i : Nat} (h : i < 2147483648) : (nI i ≤ (200000 : Int32)) = (i ≤ 200000) := le_nI h (by decide)
theorem l200000_le {i : Nat} (h : i < 2147483648) : ((200000 : Int32) ≤ nI i) = (200000 ≤ i) := le_nI (by decide) h
theorem lt_l200000 {i : Nat} (h : i < 2147483648) : (nI i < (200000 : Int32)) = (i < 200000) := lt_nI h (by decide)
theorem l200000_lt {i : Nat} (h : i < 2147483648) : ((200000 : Int32) < nI i) = (200000 < i) := lt_nI (by decide) h
theorem eq_l200000 {i : Nat} (h : i < 2147483648) : (nI i = (200000 : Int32)) = (i = 200000) := eq_nI h (by decide)
theorem l200000_eq {i : Nat} (h : i < 2147483648) : ((200000 : Int32) = nI i) = (200000 = i) := eq_nI (by decide) h
theorem le_l1000000 {i : Nat} (h : i < 2147483648) : (nI i ≤ (1000000 : Int32)) = (i ≤ 1000000) := le_nI h (by decide)
theorem l1000000_le {i : Nat} (h : i < 2147483648) : ((1000000 : Int32) ≤ nI i) = (1000000 ≤ i) := le_nI (by decide) h
theorem lt_l1000000 {i : Nat} (h : i < 2147483648) : (nI i < (1000000 : Int32)) = (i < 1000000) := lt_nI h (by decide)
theorem l1000000_lt {i : Nat} (h : i < 2147483648) : ((1000000 : Int32) < nI i) = (1000000 < i) := lt_nI (by decide) h
theorem eq_l1000000 {i : Nat} (h : i < 2147483648) : (nI i = (1000000 : Int32)) = (i = 1000000) := eq_nI h (by decide)
theorem l1000000_eq {i : Nat} (h : i < 2147483648) : ((1000000 : Int32) = nI i) = (1000000 = i) := eq_nI (by decide) h

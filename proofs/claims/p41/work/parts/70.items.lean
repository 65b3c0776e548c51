/-! THE LAW'S TEXT as tokens -/
theorem tx_3 : tx 3 = [114, 97, 116, 101, 32] := by decide +kernel
theorem tx_4 : tx 4 = [59] := by decide +kernel
theorem tx_5 : tx 5 = [112, 108, 97, 99, 101, 32] := by decide +kernel
theorem tx_6 : tx 6 = [99, 97, 114, 114, 105, 101, 114, 32] := by decide +kernel
theorem tx_7 : tx 7 = [108, 101, 103, 32] := by decide +kernel
theorem tx_8 : tx 8 = [98, 97, 110, 100, 32] := by decide +kernel
theorem tx_9 : tx 9 = [112, 114, 111, 118, 105, 115, 111, 32] := by decide +kernel
theorem tx_10 : tx 10 = [32, 97, 110, 121, 32] := by decide +kernel
theorem tx_11 : tx 11 = [] := by decide +kernel
theorem tx_12 : tx 12 = [32, 119, 105, 116, 104, 32] := by decide +kernel
theorem tx_13 : tx 13 = [98, 97, 115, 101, 32] := by decide +kernel
theorem tx_14 : tx 14 = [116, 105, 99, 107, 101, 116, 32, 116] := by decide +kernel
theorem tx_15 : tx 15 = [32, 109, 105, 108, 101, 115, 32] := by decide +kernel
theorem tx_16 : tx 16 = [32, 98, 97, 115, 101, 32] := by decide +kernel
abbrev kw5 (s : Bool) : Itm := (s, 5, 0, [112, 108, 97, 99, 101])
abbrev kw6 (s : Bool) : Itm := (s, 6, 0, [99, 97, 114, 114, 105, 101, 114])
abbrev kw7 (s : Bool) : Itm := (s, 7, 0, [108, 101, 103])
abbrev kw8 (s : Bool) : Itm := (s, 8, 0, [98, 97, 110, 100])
abbrev kw9 (s : Bool) : Itm := (s, 9, 0, [112, 114, 111, 118, 105, 115, 111])
abbrev kw10 (s : Bool) : Itm := (s, 10, 0, [97, 110, 121])
abbrev kw11 (s : Bool) : Itm := (s, 11, 0, [102, 105, 120, 101, 100])
abbrev kw12 (s : Bool) : Itm := (s, 12, 0, [112, 97, 114, 116])
abbrev kw13 (s : Bool) : Itm := (s, 13, 0, [108, 101, 97, 115, 116])
abbrev kw14 (s : Bool) : Itm := (s, 14, 0, [109, 111, 115, 116])
abbrev kw15 (s : Bool) : Itm := (s, 15, 0, [119, 105, 116, 104])
abbrev kw16 (s : Bool) : Itm := (s, 16, 0, [98, 97, 115, 101])
abbrev kw17 (s : Bool) : Itm := (s, 17, 0, [114, 97, 116, 101])
abbrev kw18 (s : Bool) : Itm := (s, 18, 0, [116, 105, 99, 107, 101, 116])
abbrev kw19 (s : Bool) : Itm := (s, 19, 0, [109, 105, 108, 101, 115])
def tkT (t : Nat) : List Nat := [116, 97 + t]
def plN (p : Nat) : Nat := cod (plT p)
def caN (p : Nat) : Nat := cod (caT p)
def tkN (p : Nat) : Nat := cod (tkT p)
abbrev iN (v : Nat) : Itm := (true, 3, v, dgs v)
abbrev iP (p : Nat) : Itm := (true, 4, plN p, plT p)
abbrev iC (p : Nat) : Itm := (true, 4, caN p, caT p)
abbrev iT (p : Nat) : Itm := (true, 4, tkN p, tkT p)
abbrev iS : Itm := (false, 2, 0, [59])
def kdT (k : Nat) : Itm := (true, 10 + k, 0, tx (16 + k))
def fmI (f : Nat → List Itm) : Nat → Nat → List Itm
  | _, 0 => []
  | i, d + 1 => f i ++ fmI f (i + 1) d
def itRt (c : Nat → Int32) : List Itm := [kw17 false, iN (nRt c), iS]
def itPl (p : Nat) : List Itm := [kw5 false, iP p, iS]
def itCa (p : Nat) : List Itm := [kw6 false, iC p, iS]
def itLg (c : Nat → Int32) (p : Nat) : List Itm := [kw7 false, iP p, iP (p + 1), iN (nLg c p), iS]
def itRg (c : Nat → Int32) : List Itm := [kw7 false, iP (nPl c - 1), iP 0, iN (nRg c), iS]
def itBd (c : Nat → Int32) (b : Nat) : List Itm := [kw8 false, iN (nUp c b), iN (nWt c b), iS]
def itPrA (c : Nat → Int32) (p : Nat) : List Itm := if pA c p then [kw10 true] else [iP (pX c p), iP (pY c p)]
def itPrW (c : Nat → Int32) (p : Nat) : List Itm := if pW c p then [kw15 true, iC (pO c p)] else []
def itPr (c : Nat → Int32) (p : Nat) : List Itm := kw9 false :: iC (pC c p) :: (itPrA c p ++ (kdT (pK c p) :: iN (pV c p) :: (itPrW c p ++ [iS])))
def itBs (c : Nat → Int32) (k : Nat) : List Itm := if bI c k then [kw16 false, iC (bC c k), iP (bP c k), iP (bP c k + 1), iN (bV c k), iS] else []
def itCo (c : Nat → Int32) (t k : Nat) : List Itm := [iC (nCr c t k), iP (nAt c t (k + 1))]
def itHw (c : Nat → Int32) (t : Nat) : Itm := if nH c t = 0 then kw19 true else kw16 true
def itTk (c : Nat → Int32) (t : Nat) : List Itm := kw18 false :: iT t :: iN (nF c t) :: itHw c t :: iP (nAt c t 0) :: (fmI (itCo c t) 0 (nCo c t) ++ [iS])
def TI (c : Nat → Int32) : List Itm := itRt c ++ fmI itPl 0 (nPl c) ++ fmI itCa 0 (nCa c) ++ fmI (itLg c) 0 (nPl c - 1) ++ (if nRg c = 0 then [] else itRg c) ++ fmI (itBd c) 0 (nBd c) ++ fmI (itPr c) 0 (nPr c) ++ fmI (itBs c) 0 (nBs c) ++ fmI (itTk c) 0 (nTk c)
theorem rd_app : ∀ (A B : List Itm), rdL (A ++ B) = rdL A ++ rdL B
  | [], B => rfl
  | x :: A, B => by
    show rdI x ++ rdL (A ++ B) = (rdI x ++ rdL A) ++ rdL B
    rw [rd_app A B, List.append_assoc]
theorem rd_fm {f : Nat → List Itm} {g : Nat → List Nat} (h : ∀ i, rdL (f i) = g i) : ∀ (d i : Nat), rdL (fmI f i d) = fm g i d
  | 0, _ => rfl
  | d + 1, i => by
    unfold fmI fm
    rw [rd_app, h i, rd_fm h d (i + 1)]
theorem ch_app : ∀ {A B : List Itm}, Ch A → Ch B → Ch (A ++ B)
  | [], B, _, h => h
  | x :: A, B, h, k => by
    obtain ⟨h1, h2, h3⟩ := h
    refine ⟨h1, fun z => ?_, ch_app h3 k⟩
    obtain ⟨y, M, e, hy⟩ := h2 z
    exact ⟨y, M ++ B, by rw [e]; rfl, hy⟩
theorem ch_fm {f : Nat → List Itm} : ∀ (d i : Nat), (∀ j, i ≤ j → j < i + d → Ch (f j)) → Ch (fmI f i d)
  | 0, _, _ => trivial
  | d + 1, i, h => ch_app (h i (by omega) (by omega)) (ch_fm d (i + 1) (fun j a b => h j (by omega) (by omega)))
def HdI (L : List Itm) : Prop := ∃ y M, L = y :: M ∧ (y.1 = true ∨ y.2.2.2 = [59])
theorem hd_c {x : Itm} {L : List Itm} (h : x.1 = true ∨ x.2.2.2 = [59]) : HdI (x :: L) := ⟨x, L, rfl, h⟩
theorem ch_c {x : Itm} {L : List Itm} (h : Gd x) (k : HdI L) (l : Ch L) : Ch (x :: L) := ⟨h, fun _ => k, l⟩
theorem ch_s {L : List Itm} (l : Ch L) : Ch (iS :: L) := ⟨Or.inl ⟨rfl, rfl⟩, fun z => absurd rfl z, l⟩
theorem dgs_dg {v : Nat} (hv : v < 10000) : ∀ j, j < (dgs v).length → 48 ≤ (dgs v).getD j 0 ∧ (dgs v).getD j 0 ≤ 57 := by
  intro j hj
  unfold dgs at hj ⊢
  by_cases q1 : v < 10
  · rw [if_pos q1] at hj ⊢
    have hj : j < 1 := hj
    obtain rfl : j = 0 := by omega
    show 48 ≤ 48 + v ∧ 48 + v ≤ 57
    omega
  rw [if_neg q1] at hj ⊢
  by_cases q2 : v < 100
  · rw [if_pos q2] at hj ⊢
    have hj : j < 2 := hj
    rcases (by omega : j = 0 ∨ j = 1) with rfl | rfl
    · show 48 ≤ 48 + v / 10 ∧ 48 + v / 10 ≤ 57
      omega
    · show 48 ≤ 48 + v % 10 ∧ 48 + v % 10 ≤ 57
      omega
  rw [if_neg q2] at hj ⊢
  by_cases q3 : v < 1000
  · rw [if_pos q3] at hj ⊢
    have hj : j < 3 := hj
    rcases (by omega : j = 0 ∨ j = 1 ∨ j = 2) with rfl | rfl | rfl
    · show 48 ≤ 48 + v / 100 ∧ 48 + v / 100 ≤ 57
      omega
    · show 48 ≤ 48 + v / 10 % 10 ∧ 48 + v / 10 % 10 ≤ 57
      omega
    · show 48 ≤ 48 + v % 10 ∧ 48 + v % 10 ≤ 57
      omega
  rw [if_neg q3] at hj ⊢
  have hj : j < 4 := hj
  rcases (by omega : j = 0 ∨ j = 1 ∨ j = 2 ∨ j = 3) with rfl | rfl | rfl | rfl
  · show 48 ≤ 48 + v / 1000 ∧ 48 + v / 1000 ≤ 57
    omega
  · show 48 ≤ 48 + v / 100 % 10 ∧ 48 + v / 100 % 10 ≤ 57
    omega
  · show 48 ≤ 48 + v / 10 % 10 ∧ 48 + v / 10 % 10 ≤ 57
    omega
  · show 48 ≤ 48 + v % 10 ∧ 48 + v % 10 ≤ 57
    omega
theorem nuL_c {c v : Nat} {w : List Nat} (h : v ≤ 9999999) : nuL (c :: w) v = nuL w (10 * v + (c - 48)) := by
  show nuL w (if v ≤ 9999999 then 10 * v + (c - 48) else v) = _
  rw [if_pos h]
theorem dgs_nu {v : Nat} (hv : v < 10000) : nuL (dgs v) 0 = v := by
  unfold dgs
  by_cases q1 : v < 10
  · rw [if_pos q1, nuL_c (by omega)]
    show 10 * 0 + (48 + v - 48) = v
    omega
  rw [if_neg q1]
  by_cases q2 : v < 100
  · rw [if_pos q2, nuL_c (by omega), nuL_c (by omega)]
    show 10 * (10 * 0 + (48 + v / 10 - 48)) + (48 + v % 10 - 48) = v
    omega
  rw [if_neg q2]
  by_cases q3 : v < 1000
  · rw [if_pos q3, nuL_c (by omega), nuL_c (by omega), nuL_c (by omega)]
    show 10 * (10 * (10 * 0 + (48 + v / 100 - 48)) + (48 + v / 10 % 10 - 48)) + (48 + v % 10 - 48) = v
    omega
  rw [if_neg q3, nuL_c (by omega), nuL_c (by omega), nuL_c (by omega), nuL_c (by omega)]
  show 10 * (10 * (10 * (10 * 0 + (48 + v / 1000 - 48)) + (48 + v / 100 % 10 - 48)) + (48 + v / 10 % 10 - 48)) + (48 + v % 10 - 48) = v
  omega
theorem gd_n {v : Nat} (hv : v < 10000) : Gd (iN v) := Or.inr (Or.inl ⟨rfl, dgs_le.1, dgs_dg hv, dgs_nu hv⟩)
theorem two_l {a b : Nat} (ha : 97 ≤ a ∧ a ≤ 122) (hb : 97 ≤ b ∧ b ≤ 122) : ∀ j, j < [a, b].length → 97 ≤ [a, b].getD j 0 ∧ [a, b].getD j 0 ≤ 122 := by
  intro j hj
  have hj : j < 2 := hj
  rcases (by omega : j = 0 ∨ j = 1) with rfl | rfl
  · exact ha
  · exact hb
theorem wt_p : ∀ p : Fin 8, wtk (cod (plT p.val)) 2 = 4 ∧ wtk (cod (caT p.val)) 2 = 4 ∧ wtk (cod (tkT p.val)) 2 = 4 := by decide +kernel
theorem gd_p {p : Nat} (hp : p < 8) : Gd (iP p) := Or.inr (Or.inr ⟨Nat.le_refl _, by show 1 ≤ 2; omega, two_l (by omega) (by omega), (wt_p ⟨p, hp⟩).1, fun _ => rfl⟩)
theorem gd_c {p : Nat} (hp : p < 8) : Gd (iC p) := Or.inr (Or.inr ⟨Nat.le_refl _, by show 1 ≤ 2; omega, two_l (by omega) (by omega), (wt_p ⟨p, hp⟩).2.1, fun _ => rfl⟩)
theorem gd_t {p : Nat} (hp : p < 8) : Gd (iT p) := Or.inr (Or.inr ⟨Nat.le_refl _, by show 1 ≤ 2; omega, two_l (by omega) (by omega), (wt_p ⟨p, hp⟩).2.2, fun _ => rfl⟩)
theorem gd_k {s : Bool} {k : Nat} {w : List Nat} (h : (decide (5 ≤ k) && decide (1 ≤ w.length) && (w.all fun x => decide (97 ≤ x) && decide (x ≤ 122)) && decide (wtk (cod w) w.length = k)) = true) : Gd (s, k, 0, w) := by
  simp only [Bool.and_eq_true, decide_eq_true_eq] at h
  obtain ⟨⟨⟨h1, h2⟩, h3⟩, h4⟩ := h
  refine Or.inr (Or.inr ⟨by show 4 ≤ k; omega, h2, fun j hj => ?_, h4, fun z => by have z : k = 4 := z; omega⟩)
  have hm : w.getD j 0 ∈ w := by
    rw [List.getD_eq_getElem?_getD, List.getElem?_eq_getElem hj]
    exact List.getElem_mem hj
  have := List.all_eq_true.mp h3 _ hm
  simpa only [Bool.and_eq_true, decide_eq_true_eq] using this
theorem gd_5 {s : Bool} : Gd (kw5 s) := gd_k (by decide +kernel)
theorem gd_6 {s : Bool} : Gd (kw6 s) := gd_k (by decide +kernel)
theorem gd_7 {s : Bool} : Gd (kw7 s) := gd_k (by decide +kernel)
theorem gd_8 {s : Bool} : Gd (kw8 s) := gd_k (by decide +kernel)
theorem gd_9 {s : Bool} : Gd (kw9 s) := gd_k (by decide +kernel)
theorem gd_10 {s : Bool} : Gd (kw10 s) := gd_k (by decide +kernel)
theorem gd_11 {s : Bool} : Gd (kw11 s) := gd_k (by decide +kernel)
theorem gd_12 {s : Bool} : Gd (kw12 s) := gd_k (by decide +kernel)
theorem gd_13 {s : Bool} : Gd (kw13 s) := gd_k (by decide +kernel)
theorem gd_14 {s : Bool} : Gd (kw14 s) := gd_k (by decide +kernel)
theorem gd_15 {s : Bool} : Gd (kw15 s) := gd_k (by decide +kernel)
theorem gd_16 {s : Bool} : Gd (kw16 s) := gd_k (by decide +kernel)
theorem gd_17 {s : Bool} : Gd (kw17 s) := gd_k (by decide +kernel)
theorem gd_18 {s : Bool} : Gd (kw18 s) := gd_k (by decide +kernel)
theorem gd_19 {s : Bool} : Gd (kw19 s) := gd_k (by decide +kernel)
theorem kd_all : ∀ k : Fin 4, tx (16 + (1 + k.val)) = [[102, 105, 120, 101, 100], [112, 97, 114, 116], [108, 101, 97, 115, 116], [109, 111, 115, 116]].getD k.val [] := by decide +kernel
theorem gd_kd {k : Nat} (h1 : 1 ≤ k) (h2 : k ≤ 4) : Gd (kdT k) := by
  have e := kd_all ⟨k - 1, by omega⟩
  simp only at e
  unfold kdT
  rcases (by omega : k = 1 ∨ k = 2 ∨ k = 3 ∨ k = 4) with rfl | rfl | rfl | rfl
  · rw [show tx (16 + 1) = _ from e]; exact gd_11
  · rw [show tx (16 + 2) = _ from e]; exact gd_12
  · rw [show tx (16 + 3) = _ from e]; exact gd_13
  · rw [show tx (16 + 4) = _ from e]; exact gd_14
section
variable {c : Nat → Int32}
theorem ch_n {v : Nat} {L : List Itm} (hv : v < 10000) (h : HdI L) (l : Ch L) : Ch (iN v :: L) := ch_c (gd_n hv) h l
theorem hS {L : List Itm} : HdI (iS :: L) := hd_c (Or.inr rfl)
theorem hT {x : Nat × Nat × List Nat} {L : List Itm} : HdI ((true, x) :: L) := hd_c (Or.inl rfl)
theorem chRt : Ch (itRt c) := ch_c gd_17 hT (ch_n (by have := nRt_b c; omega) hS (ch_s trivial))
theorem chPl {p : Nat} (hp : p < 8) : Ch (itPl p) := ch_c gd_5 hT (ch_c (gd_p hp) hS (ch_s trivial))
theorem chCa {p : Nat} (hp : p < 8) : Ch (itCa p) := ch_c gd_6 hT (ch_c (gd_c hp) hS (ch_s trivial))
theorem chLg {p : Nat} (hp : p < 7) : Ch (itLg c p) := ch_c gd_7 hT (ch_c (gd_p (by omega)) hT (ch_c (gd_p (by omega)) hT (ch_n (by have := nLg_b c p; omega) hS (ch_s trivial))))
theorem chRg : Ch (itRg c) := ch_c gd_7 hT (ch_c (gd_p (by have := nPl_b c; omega)) hT (ch_c (gd_p (by omega)) hT (ch_n (by have := nRg_b c; omega) hS (ch_s trivial))))
theorem chBd {p : Nat} (hp : p < 8) : Ch (itBd c p) := ch_c gd_8 hT (ch_n (by have := nUp_b c p; omega) hT (ch_n (by have := nWt_b c p; omega) hS (ch_s trivial)))
theorem chPr {p : Nat} : Ch (itPr c p) := by
  have bp := nPl_b c
  have bc := nCa_b c
  have b1 := pC_b c p
  have b2 := pX_b c p
  have b3 := pY_b c p
  have b4 := pK_b c p
  have b5 := pV_b c p
  have b6 := pO_b c p
  have e1 : HdI (itPrW c p ++ [iS]) ∧ Ch (itPrW c p ++ [iS]) := by
    unfold itPrW
    split
    · exact ⟨hT, ch_c gd_15 hT (ch_c (gd_c (by omega)) hS (ch_s trivial))⟩
    · exact ⟨hS, ch_s trivial⟩
  have e2 : Ch (kdT (pK c p) :: iN (pV c p) :: (itPrW c p ++ [iS])) := ch_c (gd_kd b4.1 b4.2) hT (ch_n (by omega) e1.1 e1.2)
  unfold itPr itPrA
  split
  · exact ch_c gd_9 hT (ch_c (gd_c (by omega)) hT (ch_c gd_10 hT e2))
  · exact ch_c gd_9 hT (ch_c (gd_c (by omega)) hT (ch_c (gd_p (by omega)) hT (ch_c (gd_p (by omega)) hT e2)))
theorem chBs {p : Nat} : Ch (itBs c p) := by
  have bp := nPl_b c
  have bc := nCa_b c
  have b1 := bC_b c p
  have b2 := bP_b c p
  have b3 := bV_b c p
  unfold itBs
  split
  · exact ch_c gd_16 hT (ch_c (gd_c (by omega)) hT (ch_c (gd_p (by omega)) hT (ch_c (gd_p (by omega)) hT (ch_n (by omega) hS (ch_s trivial)))))
  · trivial
theorem chCo {t : Nat} : ∀ (d i : Nat), HdI (fmI (itCo c t) i d ++ [iS]) ∧ Ch (fmI (itCo c t) i d ++ [iS])
  | 0, _ => ⟨hS, ch_s trivial⟩
  | d + 1, i => by
    have bp := nPl_b c
    have bc := nCa_b c
    have b1 := nCr_b c t i
    have b2 := nAt_b c t (i + 1)
    obtain ⟨h1, h2⟩ := chCo (t := t) d (i + 1)
    exact ⟨hT, ch_c (gd_c (by omega)) hT (ch_c (gd_p (by omega)) h1 h2)⟩
theorem chTk {t : Nat} (ht : t < 8) : Ch (itTk c t) := by
  have bp := nPl_b c
  have b1 := nF_b c t
  have b2 := nAt_b c t 0
  obtain ⟨h1, h2⟩ := chCo (c := c) (t := t) (nCo c t) 0
  unfold itTk itHw
  split
  · exact ch_c gd_18 hT (ch_c (gd_t ht) hT (ch_n (by omega) hT (ch_c gd_19 hT (ch_c (gd_p (by omega)) h1 h2))))
  · exact ch_c gd_18 hT (ch_c (gd_t ht) hT (ch_n (by omega) hT (ch_c gd_16 hT (ch_c (gd_p (by omega)) h1 h2))))
theorem chTI : Ch (TI c) := by
  have bp := nPl_b c
  have bc := nCa_b c
  have bb := nBd_b c
  have bt := nTk_b c
  unfold TI
  refine ch_app (ch_app (ch_app (ch_app (ch_app (ch_app (ch_app (ch_app chRt (ch_fm _ _ (fun j _ hj => chPl (by omega)))) (ch_fm _ _ (fun j _ hj => chCa (by omega)))) (ch_fm _ _ (fun j _ hj => chLg (by omega)))) ?_) (ch_fm _ _ (fun j _ hj => chBd (by omega)))) (ch_fm _ _ (fun j _ hj => chPr))) (ch_fm _ _ (fun j _ hj => chBs))) (ch_fm _ _ (fun j _ hj => chTk (by omega)))
  split
  · trivial
  · exact chRg
theorem rdRt  : rdL (itRt c) = lnRt c := by
  simp only [itRt, lnRt, tx_0, tx_3, tx_4, tx_5, tx_6, tx_7, tx_8, tx_9, tx_10, tx_11, tx_12, tx_13, tx_14, tx_15, tx_16, plT, caT, tkT, rdL, rdI, if_true, if_false, Bool.false_eq_true, List.append_assoc, List.nil_append, List.cons_append, List.append_nil]
theorem rdPl {p : Nat} : rdL (itPl p) = lnPl p := by
  simp only [itPl, lnPl, tx_0, tx_3, tx_4, tx_5, tx_6, tx_7, tx_8, tx_9, tx_10, tx_11, tx_12, tx_13, tx_14, tx_15, tx_16, plT, caT, tkT, rdL, rdI, if_true, if_false, Bool.false_eq_true, List.append_assoc, List.nil_append, List.cons_append, List.append_nil]
theorem rdCa {p : Nat} : rdL (itCa p) = lnCa p := by
  simp only [itCa, lnCa, tx_0, tx_3, tx_4, tx_5, tx_6, tx_7, tx_8, tx_9, tx_10, tx_11, tx_12, tx_13, tx_14, tx_15, tx_16, plT, caT, tkT, rdL, rdI, if_true, if_false, Bool.false_eq_true, List.append_assoc, List.nil_append, List.cons_append, List.append_nil]
theorem rdLg {p : Nat} : rdL (itLg c p) = lnLg c p := by
  simp only [itLg, lnLg, tx_0, tx_3, tx_4, tx_5, tx_6, tx_7, tx_8, tx_9, tx_10, tx_11, tx_12, tx_13, tx_14, tx_15, tx_16, plT, caT, tkT, rdL, rdI, if_true, if_false, Bool.false_eq_true, List.append_assoc, List.nil_append, List.cons_append, List.append_nil]
theorem rdRg  : rdL (itRg c) = lnRg c := by
  simp only [itRg, lnRg, tx_0, tx_3, tx_4, tx_5, tx_6, tx_7, tx_8, tx_9, tx_10, tx_11, tx_12, tx_13, tx_14, tx_15, tx_16, plT, caT, tkT, rdL, rdI, if_true, if_false, Bool.false_eq_true, List.append_assoc, List.nil_append, List.cons_append, List.append_nil]
theorem rdBd {p : Nat} : rdL (itBd c p) = lnBd c p := by
  simp only [itBd, lnBd, tx_0, tx_3, tx_4, tx_5, tx_6, tx_7, tx_8, tx_9, tx_10, tx_11, tx_12, tx_13, tx_14, tx_15, tx_16, plT, caT, tkT, rdL, rdI, if_true, if_false, Bool.false_eq_true, List.append_assoc, List.nil_append, List.cons_append, List.append_nil]
theorem rdPr {p : Nat} : rdL (itPr c p) = lnPr c p := by
  unfold itPr lnPr itPrA lnPrA itPrW lnPrW kdT
  cases pA c p <;> cases pW c p <;> simp only [rd_app, tx_0, tx_3, tx_4, tx_5, tx_6, tx_7, tx_8, tx_9, tx_10, tx_11, tx_12, tx_13, tx_14, tx_15, tx_16, plT, caT, tkT, rdL, rdI, if_true, if_false, Bool.false_eq_true, List.append_assoc, List.nil_append, List.cons_append, List.append_nil]
theorem rdBs {p : Nat} : rdL (itBs c p) = lnBs c p := by
  unfold itBs lnBs
  cases bI c p <;> simp only [tx_0, tx_3, tx_4, tx_5, tx_6, tx_7, tx_8, tx_9, tx_10, tx_11, tx_12, tx_13, tx_14, tx_15, tx_16, plT, caT, tkT, rdL, rdI, if_true, if_false, Bool.false_eq_true, List.append_assoc, List.nil_append, List.cons_append, List.append_nil]
theorem rdCo {t p : Nat} : rdL (itCo c t p) = lnCo c t p := by
  simp only [itCo, lnCo, tx_0, tx_3, tx_4, tx_5, tx_6, tx_7, tx_8, tx_9, tx_10, tx_11, tx_12, tx_13, tx_14, tx_15, tx_16, plT, caT, tkT, rdL, rdI, if_true, if_false, Bool.false_eq_true, List.append_assoc, List.nil_append, List.cons_append, List.append_nil]
theorem rdTk {t : Nat} : rdL (itTk c t) = lnTk c t := by
  have e := rd_fm (f := itCo c t) (g := lnCo c t) (fun i => rdCo) (nCo c t) 0
  unfold itTk lnTk lnTh itHw
  by_cases q : nH c t = 0
  · rw [if_pos q, if_pos q]
    simp only [rd_app, e, tx_0, tx_3, tx_4, tx_5, tx_6, tx_7, tx_8, tx_9, tx_10, tx_11, tx_12, tx_13, tx_14, tx_15, tx_16, plT, caT, tkT, rdL, rdI, if_true, if_false, Bool.false_eq_true, List.append_assoc, List.nil_append, List.cons_append, List.append_nil]
  · rw [if_neg q, if_neg q]
    simp only [rd_app, e, tx_0, tx_3, tx_4, tx_5, tx_6, tx_7, tx_8, tx_9, tx_10, tx_11, tx_12, tx_13, tx_14, tx_15, tx_16, plT, caT, tkT, rdL, rdI, if_true, if_false, Bool.false_eq_true, List.append_assoc, List.nil_append, List.cons_append, List.append_nil]
theorem rdTI : rdL (TI c) = TX c := by
  have e1 := rd_fm (f := itPl) (g := lnPl) (fun i => rdPl) (nPl c) 0
  have e2 := rd_fm (f := itCa) (g := lnCa) (fun i => rdCa) (nCa c) 0
  have e3 := rd_fm (f := itLg c) (g := lnLg c) (fun i => rdLg) (nPl c - 1) 0
  have e4 := rd_fm (f := itBd c) (g := lnBd c) (fun i => rdBd) (nBd c) 0
  have e5 := rd_fm (f := itPr c) (g := lnPr c) (fun i => rdPr) (nPr c) 0
  have e6 := rd_fm (f := itBs c) (g := lnBs c) (fun i => rdBs) (nBs c) 0
  have e7 := rd_fm (f := itTk c) (g := lnTk c) (fun i => rdTk) (nTk c) 0
  have e8 : rdL (if nRg c = 0 then [] else itRg c) = (if nRg c = 0 then [] else lnRg c) := by
    split
    · rfl
    · exact rdRg
  unfold TI TX
  rw [rd_app, rd_app, rd_app, rd_app, rd_app, rd_app, rd_app, rd_app, e1, e2, e3, e4, e5, e6, e7, e8, rdRt]
end
/-- the tokens of many lines -/
def fmT (f : Nat → List Itm) (i d : Nat) : List (Nat × Nat) := (fmI f i d).map tkI
theorem fmT_s {f : Nat → List Itm} {i d : Nat} : fmT f i (d + 1) = (f i).map tkI ++ fmT f (i + 1) d := by
  unfold fmT
  rw [show fmI f i (d + 1) = f i ++ fmI f (i + 1) d from rfl, List.map_append]
theorem nm_ne : ∀ p q : Fin 8, (p.val ≠ q.val → plN p.val ≠ plN q.val ∧ caN p.val ≠ caN q.val ∧ tkN p.val ≠ tkN q.val) ∧ plN p.val ≠ caN q.val ∧ plN p.val ≠ tkN q.val ∧ caN p.val ≠ tkN q.val := by decide +kernel
theorem nm_lt : ∀ p : Fin 8, plN p.val < 9223372036854775808 ∧ caN p.val < 9223372036854775808 ∧ tkN p.val < 9223372036854775808 := by decide +kernel

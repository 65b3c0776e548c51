/-! THE LAW'S OWN: miles, weights, bases, factors, provisos that hold -/
section
variable {c : Nat → Int32} {σ : Sg}
theorem imin_n {a b : Nat} (ha : a < 2147483648) (hb : b < 2147483648) : imin (nI a) (nI b) = nI (min a b) := by
  unfold imin
  by_cases q : b < a
  · rw [if_pos (nI_lt q (by omega)), Nat.min_eq_right (by omega)]
  · rw [if_neg (nI_nlt (by omega) (by omega)), Nat.min_eq_left (by omega)]
theorem imax_n {a b : Nat} (ha : a < 2147483648) (hb : b < 2147483648) : (if nI a < nI b then nI b else nI a) = nI (max a b) := by
  by_cases q : a < b
  · rw [if_pos (nI_lt q (by omega)), Nat.max_eq_right (by omega)]
  · rw [if_neg (nI_nlt (by omega) (by omega)), Nat.max_eq_left (by omega)]
def alS (c : Nat → Int32) (x y p : Nat) : Nat := sS c (min p (max x y)) - sS c (min p (min x y))
theorem alS_s {x y p : Nat} : alS c x y (p + 1) = alS c x y p + if min x y ≤ p ∧ p < max x y then nLg c p else 0 := by
  unfold alS
  by_cases q1 : p < min x y
  · rw [Nat.min_eq_left (show p + 1 ≤ max x y by omega), Nat.min_eq_left (show p + 1 ≤ min x y by omega), Nat.min_eq_left (show p ≤ max x y by omega), Nat.min_eq_left (show p ≤ min x y by omega), if_neg (by omega)]
    omega
  · rw [Nat.min_eq_right (show min x y ≤ p + 1 by omega), Nat.min_eq_right (show min x y ≤ p by omega)]
    by_cases q2 : p < max x y
    · have hm := sS_m (c := c) (min x y) p (by omega)
      rw [Nat.min_eq_left (show p + 1 ≤ max x y by omega), Nat.min_eq_left (show p ≤ max x y by omega), if_pos (by omega), show sS c (p + 1) = sS c p + nLg c p from rfl]
      omega
    · rw [Nat.min_eq_right (show max x y ≤ p + 1 by omega), Nat.min_eq_right (show max x y ≤ p by omega), if_neg (by omega)]
      rfl
theorem alS_e {x y : Nat} (hx : x < nPl c) (hy : y < nPl c) : alS c x y (nPl c - 1) = dS c x y := by
  have h1 := sS_m (c := c) (min x y) (max x y) (by omega)
  unfold alS dS
  rw [Nat.min_eq_right (show max x y ≤ nPl c - 1 by omega), Nat.min_eq_right (show min x y ≤ nPl c - 1 by omega)]
  rcases Nat.le_total x y with q | q
  · rw [Nat.max_eq_right q, Nat.min_eq_left q] at h1 ⊢
    omega
  · rw [Nat.max_eq_left q, Nat.min_eq_right q] at h1 ⊢
    omega
theorem n_miles8 (h : Sc c σ) {x y : Nat} (hx : x < nPl c) (hy : y < nPl c) : ∀ (d p m : Nat), p + d = nPl c - 1 → d < m → DL_miles_8 m 1024 (nI x) (nI y) (nI (alS c x y p)) (nI (sS c p)) (nI p) σ = some (nI (mz c x y), σ) := by
  have bp := nPl_b c
  have br := nRg_b c
  intro d
  induction d with
  | zero =>
    intro p m hp hm
    obtain ⟨m, rfl⟩ : ∃ k, m = k + 1 := ⟨m - 1, by omega⟩
    have e := mz_b hx hy
    have hA := sS_b (c := c) (nPl c - 1)
    rw [DL_miles_8, n_places h, bnd_some, show nI p + (1 : Int32) = nI (p + 1) from nI_add _ _, if_pos ((nI_leI (by omega) (by omega)).mpr (by omega)), show p = nPl c - 1 by omega, alS_e hx hy]
    unfold DL_miles_69 DL_miles_93
    rw [n_ring h, bnd_some]
    unfold mz
    by_cases q : nRg c = 0
    · rw [if_pos (show nI (nRg c) = 0 by rw [q]; rfl), if_pos q]
    · rw [if_neg (show ¬ nI (nRg c) = 0 by rw [z_nI (by omega)]; exact q), if_neg q, n_ring h, bnd_some, pk_sub e.2, nI_add, imin_n (by omega) (by omega)]
  | succ d ih =>
    intro p m hp hm
    obtain ⟨m, rfl⟩ : ∃ k, m = k + 1 := ⟨m - 1, by omega⟩
    have e := ih (p + 1) m (by omega) (by omega)
    rw [DL_miles_8, n_places h, bnd_some, show nI p + (1 : Int32) = nI (p + 1) from nI_add _ _, if_neg (fun z => by have := (nI_leI (by omega) (by omega)).mp z; omega), n_leg h p, bnd_some, imin_n (by omega) (by omega), imax_n (by omega) (by omega), nI_add]
    unfold DL_miles_60 DL_miles_61
    rw [show nI p + (1 : Int32) = nI (p + 1) from nI_add _ _]
    rw [alS_s, show sS c (p + 1) = sS c p + nLg c p from rfl] at e
    by_cases q1 : p < min x y
    · rw [if_pos (nI_lt q1 (by omega)), show nI (alS c x y p) + (0 : Int32) = nI (alS c x y p) from Int32.add_zero _]
      rw [if_neg (by omega), Nat.add_zero] at e
      exact e
    · rw [if_neg (nI_nlt (by omega) (by omega))]
      by_cases q2 : max x y ≤ p
      · rw [if_pos ((nI_leI (by omega) (by omega)).mpr q2), show nI (alS c x y p) + (0 : Int32) = nI (alS c x y p) from Int32.add_zero _]
        rw [if_neg (by omega), Nat.add_zero] at e
        exact e
      · rw [if_neg (fun z => by have := (nI_leI (by omega) (by omega)).mp z; omega), n_leg h p, bnd_some, nI_add]
        rw [if_pos (by omega)] at e
        exact e
theorem n_miles (h : Sc c σ) {x y : Nat} (hx : x < nPl c) (hy : y < nPl c) : DL_miles 1024 (nI x) (nI y) σ = some (nI (mz c x y), σ) := by
  have bp := nPl_b c
  have := n_miles8 h hx hy (nPl c - 1) 0 FU (by omega) (by unfold FU; omega)
  rw [show alS c x y 0 = 0 by unfold alS; rw [Nat.zero_min, Nat.zero_min]; rfl] at this
  exact this
theorem n_weight2 (h : Sc c σ) {B : Nat → Nat → Int32} {ml : Int32} (hB : ∀ i, i < nBd c → B i 0 = nI (nUp c i) ∧ B i 1 = nI (nWt c i)) : ∀ (d i m : Nat), i + d = nBd c → d < m → DL_weightOf_2 m 1024 ml (nI i) σ = some (wtR B ml d i, σ) := by
  have bb := nBd_b c
  intro d
  induction d with
  | zero =>
    intro i m hi hm
    obtain ⟨m, rfl⟩ : ∃ k, m = k + 1 := ⟨m - 1, by omega⟩
    rw [DL_weightOf_2, n_bands h, bnd_some, if_pos ((nI_leI (by omega) (by omega)).mpr (by omega))]
    rfl
  | succ d ih =>
    intro i m hi hm
    obtain ⟨m, rfl⟩ : ∃ k, m = k + 1 := ⟨m - 1, by omega⟩
    obtain ⟨e0, e1⟩ := hB i (by omega)
    rw [DL_weightOf_2, n_bands h, bnd_some, if_neg (fun z => by have := (nI_leI (by omega) (by omega)).mp z; omega), n_upTo h i, bnd_some]
    unfold wtR DL_weightOf_19
    rw [e0, e1, n_weight h i, bnd_some, show nI i + (1 : Int32) = nI (i + 1) from nI_add _ _, ih (i + 1) m (by omega) (by omega)]
    split <;> rfl
theorem n_weightOf (h : Sc c σ) {B : Nat → Nat → Int32} {ml : Int32} (hB : ∀ i, i < nBd c → B i 0 = nI (nUp c i) ∧ B i 1 = nI (nWt c i)) : DL_weightOf 1024 ml σ = some (wtR B ml (nBd c) 0, σ) := by
  have bb := nBd_b c
  exact n_weight2 h hB (nBd c) 0 FU (by omega) (by unfold FU; omega)
theorem isP_n {a b x y : Nat} (ha : a < 1000) (hb : b < 1000) (hx : x < 1000) (hy : y < 1000) : (isP (nI a) (nI b) (nI x) (nI y) = true) = ((a = x ∧ b = y) ∨ (a = y ∧ b = x)) := by
  unfold isP
  simp only [Bool.or_eq_true, Bool.and_eq_true, decide_eq_true_eq]
  rw [eq_nI (by omega) (by omega), eq_nI (by omega) (by omega), eq_nI (by omega) (by omega), eq_nI (by omega) (by omega)]
theorem n_base3 (h : Sc c σ) {B : Nat → Nat → Int32} {cc x y : Nat} (hc : cc < 1000) (hx : x < nPl c) (hy : y < nPl c) (hB : ∀ i, i < nB c → B i 0 = nI (bC c i) ∧ B i 1 = nI (bP c i) ∧ B i 2 = nI (bP c i + 1) ∧ B i 3 = nI (bV c i)) :
    ∀ (d i m : Nat), i + d = nBs c → d < m → DL_baseOf_3 m 1024 (nI cc) (nI x) (nI y) (nI i) σ = some (n2 (baR B (nI cc) (nI x) (nI y) (nB c - i) i), σ) := by
  have bb := nBs_b c
  have bp := nPl_b c
  have bc := nCa_b c
  have hle : nB c ≤ nBs c := Nat.min_le_left _ _
  intro d
  induction d with
  | zero =>
    intro i m hi hm
    obtain ⟨m, rfl⟩ : ∃ k, m = k + 1 := ⟨m - 1, by omega⟩
    rw [DL_baseOf_3, n_bases h, bnd_some, if_pos ((nI_leI (by omega) (by omega)).mpr (by omega)), show nB c - i = 0 by omega]
    rfl
  | succ d ih =>
    intro i m hi hm
    obtain ⟨m, rfl⟩ : ∃ k, m = k + 1 := ⟨m - 1, by omega⟩
    have e := ih (i + 1) m (by omega) (by omega)
    have b1 := bC_b c i
    have b2 := bP_b c i
    have b3 := bV_b c i
    rw [DL_baseOf_3, n_bases h, bnd_some, if_neg (fun z => by have := (nI_leI (by omega) (by omega)).mp z; omega), n_isBase h i (by omega), bnd_some]
    unfold DL_baseOf_72 DL_baseOf_64
    rw [show nI i + (1 : Int32) = nI (i + 1) from nI_add _ _, e]
    by_cases q : i < nB c
    · have hI : bI c i = true := bI_lt.mpr (Nat.lt_of_lt_of_le q (Nat.min_le_right _ _))
      obtain ⟨s0, s1, s2, s3⟩ := hB i q
      rw [if_pos hI, if_neg (by decide), n_base0 h i (by omega), bnd_some, n_base1 h i (by omega), bnd_some, imin_n (by omega) (by omega), imax_n (by omega) (by omega)]
      rw [show nB c - i = (nB c - (i + 1)) + 1 by omega]
      unfold baR
      rw [s0, s1, s2, s3]
      have hP := isP_n (a := bP c i) (b := bP c i + 1) (x := x) (y := y) (by omega) (by omega) (by omega) (by omega)
      by_cases q1 : bC c i = cc
      · rw [if_pos (show nI (bC c i) = nI cc by rw [q1])]
        by_cases q2 : min x y = bP c i
        · rw [if_pos (show nI (min x y) = nI (bP c i) by rw [q2]), n_base1 h i (by omega), bnd_some, show nI (bP c i) + (1 : Int32) = nI (bP c i + 1) from nI_add _ _]
          by_cases q3 : max x y = bP c i + 1
          · rw [if_pos (show nI (max x y) = nI (bP c i + 1) by rw [q3]), n_base2 h i (by omega), bnd_some, if_pos (show nI (bC c i) = nI cc ∧ isP (nI (bP c i)) (nI (bP c i + 1)) (nI x) (nI y) = true from ⟨by rw [q1], by rw [hP]; omega⟩)]
            unfold n2
            rw [if_neg (nI_neg (by omega))]
          · rw [if_neg (fun z => q3 ((nI_eq (by omega) (by omega)).mp z)), if_neg (fun z => by have z2 := z.2; rw [hP] at z2; omega)]
            exact e
        · rw [if_neg (fun z => q2 ((nI_eq (by omega) (by omega)).mp z)), if_neg (fun z => by have z2 := z.2; rw [hP] at z2; omega)]
          exact e
      · rw [if_neg (fun z => q1 ((nI_eq (by omega) (by omega)).mp z)), if_neg (fun z => q1 ((nI_eq (by omega) (by omega)).mp z.1))]
        exact e
    · have hI : ¬ bI c i = true := fun z => by
        have := bI_lt.mp z
        unfold nB at q
        omega
      rw [if_neg hI, if_pos rfl, show nB c - i = 0 by omega, show nB c - (i + 1) = 0 by omega]
      rfl
theorem n_baseOf (h : Sc c σ) {B : Nat → Nat → Int32} {cc x y : Nat} (hc : cc < 1000) (hx : x < nPl c) (hy : y < nPl c) (hB : ∀ i, i < nB c → B i 0 = nI (bC c i) ∧ B i 1 = nI (bP c i) ∧ B i 2 = nI (bP c i + 1) ∧ B i 3 = nI (bV c i)) : DL_baseOf 1024 (nI cc) (nI x) (nI y) σ = some (n2 (baR B (nI cc) (nI x) (nI y) (nB c) 0), σ) := by
  have bb := nBs_b c
  exact n_base3 h hc hx hy hB (nBs c) 0 FU (by omega) (by unfold FU; omega)
/-- the law's factor of a coupon is the class's -/
theorem n_factor (h : Sc c σ) {σT : Sg} (hT : Tab c σT) {t k hw cc : Nat} {W : Nat → Nat} (w4 : W 4 = nBd c) (w6 : W 6 = nB c) {how : Int32} (hh : how = nI hw) (hw1 : hw ≤ 1) (ht : t < nTk c) (hk : k < nCo c t) {car : Nat → Int32} (hc : car k = nI cc) (hc2 : cc < nCa c) :
    ∃ r, DL_factor 1024 how (nI cc) (nI (nAt c t k)) (nI (nAt c t (k + 1))) σ = some (r, σ) ∧ r.toInt = fcC σT 14 W t how car k := by
  obtain ⟨t1, t2, t3, t4, t5, t6⟩ := hT
  obtain ⟨-, -, -, -, p5⟩ := t6 t ht
  have bc := nCa_b c
  have bp := nPl_b c
  have br := nRt_b c
  have a1 := nAt_b c t k
  have a2 := nAt_b c t (k + 1)
  have bm := (mz_b a1 a2).1
  have eml : mlP (aG σT (14 + 5)) (aG σT (14 + 10) t) k = nI (mz c (nAt c t k) (nAt c t (k + 1))) := by
    unfold mlP
    rw [show aG σT (14 + 10) t k = _ from p5 k (by omega), show aG σT (14 + 10) t (k + 1) = _ from p5 (k + 1) (by omega), nI_clamp (by omega), nI_clamp (by omega)]
    exact t1 _ _ a1 a2
  have ew := n_weightOf h (B := aG σT (14 + 6)) (ml := nI (mz c (nAt c t k) (nAt c t (k + 1)))) t3
  have eb := n_baseOf h (B := aG σT (14 + 8)) (cc := cc) (x := nAt c t k) (y := nAt c t (k + 1)) (by omega) a1 a2 t5
  have wb : 0 ≤ (wtR (aG σT (14 + 6)) (nI (mz c (nAt c t k) (nAt c t (k + 1)))) (nBd c) 0).toInt := by
    have := wtR_bd (band := aG σT (14 + 6)) (ml := nI (mz c (nAt c t k) (nAt c t (k + 1)))) (nb := nBd c) (fun i hi => by
      have := nWt_b c i
      rw [show aG σT (14 + 6) i 1 = _ from (t3 i hi).2, nI_i (by omega)]
      omega) (nBd c) 0 (by omega)
    omega
  unfold fcC fcP
  rw [eml, hc, show aG σT (14 + 10) t k = _ from p5 k (by omega), show aG σT (14 + 10) t (k + 1) = _ from p5 (k + 1) (by omega), w4, w6, show gI σT 14 7 = _ from t2]
  unfold DL_factor
  rw [n_miles h a1 a2, bnd_some]
  by_cases q : how = 0
  · rw [if_pos q, if_pos q, ew, bnd_some]
    exact ⟨_, rfl, ii_mul (by rw [nI_i (by omega)]; omega) wb⟩
  · rw [if_neg q, if_neg q, eb, bnd_some]
    unfold DL_factor_57
    have bb := baR_bd (base := aG σT (14 + 8)) (c := nI cc) (x := nI (nAt c t k)) (y := nI (nAt c t (k + 1))) (nb := nB c) (fun i hi => by
      have := bV_b c i
      rw [show aG σT (14 + 8) i 3 = _ from (t5 i hi).2.2.2, nI_i (by omega)]
      omega) (nB c) 0 (by omega)
    generalize baR (aG σT (14 + 8)) (nI cc) (nI (nAt c t k)) (nI (nAt c t (k + 1))) (nB c) 0 = B at bb eb ⊢
    by_cases q2 : B = -1
    · rw [if_pos q2, q2, show n2 (-1) = -2 from rfl, if_neg (by decide), n_rate h, bnd_some]
      exact ⟨_, rfl, ii_mul (by rw [nI_i (by omega)]; omega) (by rw [nI_i (by omega)]; omega)⟩
    · have bb2 : 1 ≤ B.toInt := by
        rcases bb with z | z
        · exact absurd z q2
        · exact z.1
      have en : n2 B = B := if_neg q2
      rw [en] at eb ⊢
      rw [if_neg q2, if_pos (show (0 : Int32) ≤ B from Int32.le_iff_toInt_le.mpr (by rw [w_0]; omega)), eb, bnd_some]
      exact ⟨_, rfl, i_l⟩
end

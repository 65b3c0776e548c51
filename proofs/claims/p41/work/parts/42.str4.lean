/-! a number appended, a builder made, a string made of it -/
theorem dgs_lo {v : Nat} (hv : v < 10000) : Lo (dgs v) := by
  intro i hi
  unfold dgs at hi ⊢
  by_cases q1 : v < 10
  · rw [if_pos q1] at hi ⊢
    have hi : i < 1 := hi
    obtain rfl : i = 0 := by omega
    show 48 + v < 128
    omega
  rw [if_neg q1] at hi ⊢
  by_cases q2 : v < 100
  · rw [if_pos q2] at hi ⊢
    have hi : i < 2 := hi
    rcases (by omega : i = 0 ∨ i = 1) with rfl | rfl
    · show 48 + v / 10 < 128
      omega
    · show 48 + v % 10 < 128
      omega
  rw [if_neg q2] at hi ⊢
  by_cases q3 : v < 1000
  · rw [if_pos q3] at hi ⊢
    have hi : i < 3 := hi
    rcases (by omega : i = 0 ∨ i = 1 ∨ i = 2) with rfl | rfl | rfl
    · show 48 + v / 100 < 128
      omega
    · show 48 + v / 10 % 10 < 128
      omega
    · show 48 + v % 10 < 128
      omega
  rw [if_neg q3] at hi ⊢
  have hi : i < 4 := hi
  rcases (by omega : i = 0 ∨ i = 1 ∨ i = 2 ∨ i = 3) with rfl | rfl | rfl | rfl
  · show 48 + v / 1000 < 128
    omega
  · show 48 + v / 100 % 10 < 128
    omega
  · show 48 + v / 10 % 10 < 128
    omega
  · show 48 + v % 10 < 128
    omega
theorem j_appI {L : Nat} {xs : Nat → Int32} {σ : Sg} {a v c : Nat} {t : List Nat} (hO : OutP L xs σ) (h : SbI σ a t c) (hv : v < 10000) (hl : t.length + 4 ≤ 800) :
    ∃ σ' c', DJ4_append_bf812 a (nI v) σ = some (a, σ') ∧ G1 (XB σ a) σ σ' 1 ∧ SbI σ' a (t ++ dgs v) c' ∧ (gR σ' a 0 = gR σ a 0 ∨ 2000 + gM σ ≤ gR σ' a 0) := by
  have hd := dgs_le (v := v)
  obtain ⟨τ, c', e1, g1, g2, g3, g4⟩ := j_ens (m := t.length + (dgs v).length) h (by omega)
  have hO' : OutP L xs τ := hO.g g1 (fun x hx z => by have := h.2.1; omega)
  obtain ⟨ρ, r1, r2, r3, r4, r5, r6, r7, r8⟩ := j_gc (at_ := t.length) hO' hv g2.2.2.2.2.2.2.2.1 g2.2.2.2.2.2.1 g2.2.2.2.2.2.2.1 g2.2.2.2.2.2.2.2.2.2.1 (by omega)
  have hne := g2.ne
  have hS : ∀ k, ckH (pI ρ k 3 0) 8 a = true := fun k => by
    unfold ckH
    rw [gS_pI, gM_pI, r4, r3]
    exact g2.hh
  refine ⟨pI ρ a 3 (nI (t.length + (dgs v).length)), c', ?_, ?_, ?_, ?_⟩
  · unfold DJ4_append_bf812 DJ5_append_c97b9 DJ4_append_bf812_5
    rw [h.p, chk_true, h.p, chk_true, j_size hv, bnd_some, h.2.2.2.2.1, nI_add, e1, bnd_some]
    unfold DJ5_append_c97b9_17
    simp only [h.p, g2.p, g2.v, chk_true, j_isl g2, bnd_some, r1, show ckH ρ 8 a = true from hS 0, wlet_eq, if_neg (show ¬ (1 : Int32) = 0 by decide)]
  · have q := ((g1.mono (Y := XB σ a) (fun _ _ z => Or.inl z) (Nat.le_refl 1)).tr r2 (fun x hx z => ?_)).tr (g1_pI (a := a) (k := 3) (v := nI (t.length + (dgs v).length))) (fun x _ z => Or.inl z)
    · exact q
    · rcases g4 with g4 | g4
      · exact Or.inr (z.trans g4)
      · omega
  · refine g2.ext (f := fun _ => 0) (u := dgs v) (dgs_lo hv) g3 r4 r3 r2.2.1 ?_ ?_ (by rw [gR_pI, r6]) (fun i hi => ?_) (fun i hi => ?_)
    · rw [gI_pI, if_neg (by omega), r5]
    · rw [gI_pI, if_pos ⟨rfl, rfl⟩]
    · rw [aI_pI]; exact r7 i hi
    · rw [aI_pI]; exact r8 i hi
  · rw [gR_pI, r6]; exact g4
theorem j_new {σ : Sg} (hN : gN σ = 51) : ∃ σ', DJ4_init_da8c8 (2000 + gM σ) (mkD σ 1 8 4) = some ((), σ') ∧ G1 (fun _ => False) σ σ' 2 ∧ SbI σ' (2000 + gM σ) [] 16 ∧ 2000 + gM σ ≤ gR σ' (2000 + gM σ) 0 := by
  have hS1 : gS (mkD σ 1 8 4) (2000 + gM σ) = (1, 8) := by rw [gS_mkD, if_pos rfl]
  have hS2 : gS (mkD (mkD σ 1 8 4) 6 16 16) (2000 + gM σ) = (1, 8) := by rw [gS_mkD, gM_mkD, if_neg (by omega), hS1]
  have k1 : ckH (mkD (mkD σ 1 8 4) 6 16 16) 8 (2000 + gM σ) = true := by
    unfold ckH
    rw [hS2, gM_mkD, gM_mkD]
    simp
    omega
  have k2 : ckH (pR (mkD (mkD σ 1 8 4) 6 16 16) (2000 + gM σ) 0 (2000 + (gM σ + 1))) 8 (2000 + gM σ) = true := k1
  have k3 : ck51 (mkD σ 1 8 4) = true := decide_eq_true hN
  refine ⟨pI (pR (mkD (mkD σ 1 8 4) 6 16 16) (2000 + gM σ) 0 (2000 + (gM σ + 1))) (2000 + gM σ) 1 0, ?_, ?_, ?_, ?_⟩
  · unfold DJ4_init_da8c8 DJ4_init_da8c8_6 DJ5_init_d00df DJ5_init_d00df_14
    rw [if_neg (by decide), show ckn (16 : Int32) = true by decide, chk_true, k3, chk_true, show (16 : Int32).toNatClampNeg = 16 by decide, wlet_eq, k1, chk_true, show ckV (2000 + gM (mkD σ 1 8 4)) = true from decide_eq_true (by omega), chk_true, gM_mkD, wlet_eq, k2, chk_true, show ckK (0 : Int32) = true by decide, chk_true, wlet_eq, bnd_some]
  · have q := (((g1_mkD (X := fun _ => False) (σ := σ) (k := 1) (n := 8) (z := 4) (by omega)).tr (g1_mkD (X := fun _ => False) (σ := mkD σ 1 8 4) (k := 6) (n := 16) (z := 16) (by omega)) (fun _ _ z => z)).tr (g1_pR (a := 2000 + gM σ) (k := 0) (v := 2000 + (gM σ + 1))) (fun a ha z => by omega)).tr (g1_pI (a := 2000 + gM σ) (k := 1) (v := 0)) (fun a ha z => by omega)
    exact q
  · have eR : gR (pI (pR (mkD (mkD σ 1 8 4) 6 16 16) (2000 + gM σ) 0 (2000 + (gM σ + 1))) (2000 + gM σ) 1 0) (2000 + gM σ) 0 = 2000 + (gM σ + 1) := by rw [gR_pI, gR_pR, if_pos ⟨rfl, rfl⟩]
    refine ⟨hS2, by omega, ?_, ?_, ?_, ?_, ?_, ?_, Nat.zero_le _, by omega, fun i hi => absurd hi (Nat.not_lt_zero _), fun i hi => absurd hi (Nat.not_lt_zero _), hN⟩
    · rw [gM_pI, gM_pR, gM_mkD, gM_mkD]; omega
    · rw [gI_pI, if_pos ⟨rfl, rfl⟩]
    · rw [gI_pI, if_neg (by omega), gI_pR, gI_mkD, gM_mkD, if_neg (by omega), gI_mkD, if_pos rfl]; rfl
    · rw [eR]; omega
    · rw [eR, gM_pI, gM_pR, gM_mkD, gM_mkD]; omega
    · rw [eR, gS_pI, gS_pR, gS_mkD, gM_mkD, if_pos rfl]
  · rw [gR_pI, gR_pR, if_pos ⟨rfl, rfl⟩]; omega
theorem By.lt {σ : Sg} {v : Nat} {t : List Nat} (h : By σ v t) {τ : Sg} {w : Nat} (e : ∀ i, i < t.length → aI τ w i = aI σ v i) : By τ w t := fun i hi => (e i hi).trans (h i hi)
theorem j_range {σ : Sg} {v c : Nat} {t : List Nat} (hS : gS σ v = (6, c)) (h1 : 2000 ≤ v) (h2 : v < 2000 + gM σ) (hc : c ≤ 1700) (hl : t.length ≤ c) (hB : By σ v t) (hN : gN σ = 51) :
    ∃ σ', DJ7_copyOfRange_39247 v 0 (nI t.length) σ = some (2000 + gM σ, σ') ∧ G1 (fun _ => False) σ σ' 1 ∧ gS σ' (2000 + gM σ) = (6, t.length) ∧ By σ' (2000 + gM σ) t ∧ gM σ' = gM σ + 1 := by
  have hne : v ≠ 2000 + gM σ := by omega
  have e1 : ckQ σ v = true := by unfold ckQ; simp [hS, h1, h2]; omega
  have eN : ck51 σ = true := decide_eq_true hN
  unfold DJ7_copyOfRange_39247
  rw [if_pos rfl, e1, chk_true, hS]
  have gg : ∀ n m, n ≤ 1700 → G1 (fun _ => False) σ (cpB (mkD σ 6 n n) v 0 (2000 + gM σ) 0 m) 1 := fun n m hn => by
    have := (g1_mkD (X := fun _ => False) (σ := σ) (k := 6) (n := n) (z := n) (by omega)).tr (g1_cpB (σ := mkD σ 6 n n) (a0 := v) (sp := 0) (a := 2000 + gM σ) (dp := 0) (n := m)) (fun a ha z => by omega)
    exact this
  have bb : ∀ n m, t.length ≤ m → By (cpB (mkD σ 6 n n) v 0 (2000 + gM σ) 0 m) (2000 + gM σ) t := fun n m hm => hB.lt (fun i hi => by
    rw [aI_cpB, if_pos rfl, cpy_in (by omega) (by omega), aI_mkD, if_neg hne]
    exact congrArg _ (by omega))
  by_cases q : t.length = c
  · have k6 : ckB6 σ v = true := by unfold ckB6; simp [hS, h1, h2]
    have k7 : ckB6 (clD σ v) (2000 + gM σ) = true := by
      unfold ckB6 clD
      rw [gS_cpB, gS_mkD, if_pos rfl, gM_cpB, gM_mkD]
      simp
    rw [if_pos (by rw [q]), k6, chk_true, eN, chk_true, wlet_eq]
    unfold DJ7_copyOfRange_39247_21
    rw [k7, chk_true]
    refine ⟨clD σ v, rfl, ?_, ?_, ?_, rfl⟩
    · unfold clD; rw [hS]; exact gg c c hc
    · unfold clD; rw [gS_cpB, gS_mkD, if_pos rfl, hS, q]
    · unfold clD; rw [hS]; exact bb c c hl
  · have e0 : nI t.length - (0 : Int32) = nI t.length := Int32.sub_zero _
    have e00 : nI c - (0 : Int32) = nI c := Int32.sub_zero _
    have e2 : ckn (nI t.length) = true := by
      unfold ckn
      simp only [Bool.and_eq_true, decide_eq_true_eq]
      exact ⟨nI_pos' (by omega), (le_nI (b := 60000) (by omega) (by decide)).mpr (by omega)⟩
    have e3 : imin (nI c) (nI t.length) = nI t.length := by
      unfold imin
      rw [if_pos (nI_lt (show t.length < c by omega) (by omega))]
    have hs1 : gS (mkD σ 6 t.length t.length) v = (6, c) := by rw [gS_mkD, if_neg hne, hS]
    have hs2 : gS (mkD σ 6 t.length t.length) (2000 + gM σ) = (6, t.length) := by rw [gS_mkD, if_pos rfl]
    have e4 : ckY (mkD σ 6 t.length t.length) v 0 (2000 + gM σ) 0 (nI t.length) = true := by
      unfold ckY
      rw [hs1, hs2, gM_mkD, sb_cl0, nI_clamp (show t.length < 2 ^ 31 by omega)]
      simp only [Bool.and_eq_true, decide_eq_true_eq]
      refine ⟨⟨⟨⟨⟨⟨⟨⟨⟨⟨?_, ?_⟩, ?_⟩, ?_⟩, ?_⟩, ?_⟩, ?_⟩, ?_⟩, ?_⟩, ?_⟩, ?_⟩ <;> first | trivial | omega | exact nI_pos' (by omega)
    have e5 : ckQ (mkD σ 6 t.length t.length) v = true := by
      unfold ckQ
      rw [hs1, gM_mkD]
      simp [h1]
      omega
    rw [if_neg (fun z => q ((nI_eq (by omega) (by omega)).mp z))]
    unfold DJ7_copyOfRange_39247_10 DJ7_copyOfRange_39247_16 DJ7_copyOfRangeByte_39247 DJ7_copyOfRangeByte_39247_12 DJ7_checkLength_df160
    rw [if_pos (show (0 : Int32) ≤ nI t.length from nI_pos' (by omega)), bnd_some, e0, e2, chk_true, eN, chk_true, nI_clamp (show t.length < 2 ^ 31 by omega), wlet_eq, e5, chk_true, hs1, e00, e3, e4, chk_true, wlet_eq, sb_cl0, nI_clamp (show t.length < 2 ^ 31 by omega), bnd_some]
    refine ⟨_, rfl, gg _ _ (by omega), ?_, bb _ _ (Nat.le_refl _), rfl⟩
    rw [gS_cpB, hs2]
theorem j_toS {σ : Sg} {a c : Nat} {t : List Nat} (h : SbI σ a t c) : ∃ σ', DJ4_toString_0e30d a σ = some (2000 + gM σ, σ') ∧ G1 (fun _ => False) σ σ' 2 ∧ StI σ' (2000 + gM σ) t := by
  have hN := h.2.2.2.2.2.2.2.2.2.2.2.2
  have ha := h.2.2.1
  have hr := h.2.2.2.2.2.2.1
  have hr0 := h.2.2.2.2.2.1
  have hc := h.2.2.2.2.2.2.2.2.2.1
  have g0 := g1_mkD (X := fun _ => False) (σ := σ) (k := 1) (n := 7) (z := 4) (by omega)
  obtain ⟨h1, h2⟩ := h.g g0 (fun z => z) (fun z => z)
  have hS1 : gS (mkD σ 1 7 4) (2000 + gM σ) = (1, 7) := by rw [gS_mkD, if_pos rfl]
  have k1 : ckH (mkD σ 1 7 4) 7 (2000 + gM σ) = true := by
    unfold ckH
    rw [hS1, gM_mkD]
    simp
  obtain ⟨τ, hτ⟩ : ∃ τ, pI (mkD σ 1 7 4) (2000 + gM σ) 1 0 = τ := ⟨_, rfl⟩
  have mτ : gM τ = gM σ + 1 := by rw [← hτ, gM_pI, gM_mkD]
  have g1 : G1 (fun _ => False) σ τ 1 := by rw [← hτ]; exact g0.tr (g1_pI (a := 2000 + gM σ) (k := 1) (v := 0)) (fun x hx z => by omega)
  obtain ⟨h3, h4⟩ := h.g g1 (fun z => z) (fun z => z)
  obtain ⟨ρ, r1, r2, r3, r4, r5⟩ := j_range (t := t) h3.2.2.2.2.2.2.2.1 h3.2.2.2.2.2.1 h3.2.2.2.2.2.2.1 hc h3.2.2.2.2.2.2.2.2.1 h3.2.2.2.2.2.2.2.2.2.2.1 h3.2.2.2.2.2.2.2.2.2.2.2.2
  have sτ : gS τ (2000 + gM σ) = (1, 7) := by rw [← hτ, gS_pI, hS1]
  obtain ⟨s1, s2, s3, s4, s5, s6⟩ := r2.1 (2000 + gM σ) (by omega) (fun z => z)
  have k2 : ckH ρ 7 (2000 + gM σ) = true := by
    unfold ckH
    rw [s6, sτ, r5]
    simp
    omega
  refine ⟨pR ρ (2000 + gM σ) 0 (2000 + gM τ), ?_, ?_, ?_⟩
  · unfold DJ4_toString_0e30d DJ4_toString_0e30d_3 DJ4_toString_0e30d_8 DJ0_init_81219 DJ0_init_81219_6 DJ0_init_db425 DJ5_getValue_6d5f1 DJ4_length_8abf5 DJ5_length_8abf5
    rw [show ck51 σ = true from decide_eq_true hN, chk_true, wlet_eq]
    simp only [h1.p, chk_true, h1.v, h.v, bnd_some, j_isl h1, h1.2.2.2.2.1, h2]
    rw [if_neg (by decide), k1, chk_true, show ckK (0 : Int32) = true by decide, chk_true, wlet_eq, hτ, ← h4, r1, bnd_some]
    unfold DJ0_init_db425_35 DJ0_init_db425_97
    rw [k2, chk_true, show ckV (2000 + gM τ) = true from decide_eq_true (by omega), chk_true, wlet_eq]
    rfl
  · have q := (g1.tr r2 (fun _ _ z => z)).tr (g1_pR (a := 2000 + gM σ) (k := 0) (v := 2000 + gM τ)) (fun x hx z => by omega)
    exact q
  · have eR : gR (pR ρ (2000 + gM σ) 0 (2000 + gM τ)) (2000 + gM σ) 0 = 2000 + gM τ := by rw [gR_pR, if_pos ⟨rfl, rfl⟩]
    refine ⟨Or.inl ⟨?_, by omega, ?_⟩, ?_, ?_, ?_, ?_, fun i hi => ?_, h.2.2.2.2.2.2.2.2.2.2.2.1⟩
    · rw [gS_pR, s6, sτ]
    · rw [gM_pR, r5]; omega
    · rw [gI_pR, s1, ← hτ, gI_pI, if_pos ⟨rfl, rfl⟩]
    · rw [eR]; omega
    · rw [eR, gM_pR, r5]; omega
    · rw [eR, gS_pR, r3]
    · rw [eR, aI_pR]; exact r4 i hi
theorem nI_and255 : ∀ c, c < 128 → ((nI c &&& (255 : Int32)).toUInt32 % 65536).toInt32 = nI c := by decide +kernel
theorem j_charAt {σ : Sg} {s i : Nat} {t : List Nat} (h : StI σ s t) (hi : i < t.length) (hl : t.length < 2147483648) : DJ0_charAt_5068e s (nI i) σ = some (nI (t.getD i 0), σ) := by
  have h1 := h.2.2.1
  have h2 := h.2.2.2.1
  have hS := h.2.2.2.2.1
  have hb := h.2.2.2.2.2.2 i hi
  have eA : ckA σ 6 (gR σ s 0) (nI i) = true := by
    unfold ckA
    simp [hS, h1, h2, inb_nI hi (by omega)]
  have kC : ckC (nI (t.getD i 0)) = true := by
    unfold ckC
    simp only [Bool.and_eq_true, decide_eq_true_eq]
    exact ⟨nI_pos' (by omega), (le_nI (b := 65535) (by omega) (by decide)).mpr (by omega)⟩
  unfold DJ0_charAt_5068e DJ1_charAt_3b067 DJ0_checkIndex_df160
  simp only [h.p (show 0 < 2 by decide), h.p (show 1 < 2 by decide), chk_true, j_islS h, bnd_some, if_neg (show ¬ (1 : Int32) = 0 by decide), h.v, h.q, hS, nI_clamp (show t.length < 2 ^ 31 by omega), inb_nI hi (show t.length < 2 ^ 31 by omega), eA, nI_clamp (show i < 2 ^ 31 by omega), h.2.2.2.2.2.1 i hi, nI_and255 _ hb, kC]

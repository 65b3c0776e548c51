/-! THE LAW'S TEXTS. Reads of what is made -/
theorem gI_mkD (σ : Sg) (k n z x y : Nat) : gI (mkD σ k n z) x y = if x = 2000 + gM σ then 0 else gI σ x y := by
  show u1 σ.1 (2000 + gM σ) (fun _ => 0) x y = _
  unfold u1
  split <;> rfl
theorem gJ_mkD (σ : Sg) (k n z x y : Nat) : gJ (mkD σ k n z) x y = if x = 2000 + gM σ then 0 else gJ σ x y := by
  show u1 σ.2.1 (2000 + gM σ) (fun _ => 0) x y = _
  unfold u1
  split <;> rfl
theorem gR_mkD (σ : Sg) (k n z x y : Nat) : gR (mkD σ k n z) x y = if x = 2000 + gM σ then 0 else gR σ x y := by
  show u1 σ.2.2.1 (2000 + gM σ) (fun _ => 0) x y = _
  unfold u1
  split <;> rfl
theorem aI_mkD (σ : Sg) (k n z x y : Nat) : aI (mkD σ k n z) x y = if x = 2000 + gM σ then 0 else aI σ x y := by
  show u1 σ.2.2.2.1 (2000 + gM σ) (fun _ => 0) x y = _
  unfold u1
  split <;> rfl
theorem aJ_mkD (σ : Sg) (k n z x y : Nat) : aJ (mkD σ k n z) x y = if x = 2000 + gM σ then 0 else aJ σ x y := by
  show u1 σ.2.2.2.2.1 (2000 + gM σ) (fun _ => 0) x y = _
  unfold u1
  split <;> rfl
theorem aG_mkD (σ : Sg) (k n z x y w : Nat) : aG (mkD σ k n z) x y w = aG σ x y w := rfl
theorem gS_mkD (σ : Sg) (k n z x : Nat) : gS (mkD σ k n z) x = if x = 2000 + gM σ then (k, n) else gS σ x := rfl
theorem gM_mkD (σ : Sg) (k n z : Nat) : gM (mkD σ k n z) = gM σ + 1 := rfl
theorem gZ_mkD (σ : Sg) (k n z : Nat) : gZ (mkD σ k n z) = gZ σ + z := rfl
theorem gN_mkD (σ : Sg) (k n z : Nat) : gN (mkD σ k n z) = gN σ := rfl
theorem gI_cpB (σ : Sg) (a0 sp a dp n x y : Nat) : gI (cpB σ a0 sp a dp n) x y = gI σ x y := rfl
theorem gJ_cpB (σ : Sg) (a0 sp a dp n x y : Nat) : gJ (cpB σ a0 sp a dp n) x y = gJ σ x y := rfl
theorem gR_cpB (σ : Sg) (a0 sp a dp n x y : Nat) : gR (cpB σ a0 sp a dp n) x y = gR σ x y := rfl
theorem aI_cpB (σ : Sg) (a0 sp a dp n x y : Nat) : aI (cpB σ a0 sp a dp n) x y = if x = a then va_cpy (aI σ a0) (aI σ a) sp dp n y else aI σ x y := rfl
theorem aJ_cpB (σ : Sg) (a0 sp a dp n x y : Nat) : aJ (cpB σ a0 sp a dp n) x y = aJ σ x y := rfl
theorem aG_cpB (σ : Sg) (a0 sp a dp n x y w : Nat) : aG (cpB σ a0 sp a dp n) x y w = aG σ x y w := rfl
theorem gS_cpB (σ : Sg) (a0 sp a dp n x : Nat) : gS (cpB σ a0 sp a dp n) x = gS σ x := rfl
theorem gM_cpB (σ : Sg) (a0 sp a dp n : Nat) : gM (cpB σ a0 sp a dp n) = gM σ := rfl
theorem gZ_cpB (σ : Sg) (a0 sp a dp n : Nat) : gZ (cpB σ a0 sp a dp n) = gZ σ := rfl
theorem gN_cpB (σ : Sg) (a0 sp a dp n : Nat) : gN (cpB σ a0 sp a dp n) = gN σ := rfl
/-! what stays -/
def Sm (σ σ' : Sg) (a : Nat) : Prop := (∀ k, gI σ' a k = gI σ a k) ∧ (∀ k, gJ σ' a k = gJ σ a k) ∧ (∀ k, gR σ' a k = gR σ a k) ∧ (∀ k, aI σ' a k = aI σ a k) ∧ (∀ k, aJ σ' a k = aJ σ a k) ∧ gS σ' a = gS σ a
theorem Sm.rf {σ : Sg} {a : Nat} : Sm σ σ a := ⟨fun _ => rfl, fun _ => rfl, fun _ => rfl, fun _ => rfl, fun _ => rfl, rfl⟩
theorem Sm.tr {σ τ υ : Sg} {a : Nat} (h : Sm σ τ a) (k : Sm τ υ a) : Sm σ υ a := ⟨fun i => (k.1 i).trans (h.1 i), fun i => (k.2.1 i).trans (h.2.1 i), fun i => (k.2.2.1 i).trans (h.2.2.1 i), fun i => (k.2.2.2.1 i).trans (h.2.2.2.1 i), fun i => (k.2.2.2.2.1 i).trans (h.2.2.2.2.1 i), k.2.2.2.2.2.trans h.2.2.2.2.2⟩
/-- all stays but X; k makings at most -/
def G1 (X : Nat → Prop) (σ σ' : Sg) (k : Nat) : Prop := (∀ a, a < 2000 + gM σ → ¬ X a → Sm σ σ' a) ∧ gN σ' = gN σ ∧ (∀ a i j, aG σ' a i j = aG σ a i j) ∧ gM σ ≤ gM σ' ∧ gM σ' ≤ gM σ + 40 * k ∧ gZ σ ≤ gZ σ' ∧ gZ σ' ≤ gZ σ + 2000 * k
theorem G1.rf {X : Nat → Prop} {σ : Sg} : G1 X σ σ 0 := ⟨fun _ _ _ => Sm.rf, rfl, fun _ _ _ => rfl, Nat.le_refl _, by omega, Nat.le_refl _, by omega⟩
theorem G1.tr {X Y : Nat → Prop} {σ τ υ : Sg} {k j : Nat} (h : G1 X σ τ k) (h' : G1 Y τ υ j) (hXY : ∀ a, a < 2000 + gM σ → Y a → X a) : G1 X σ υ (k + j) := by
  obtain ⟨a1, a2, a3, a4, a5, a6, a7⟩ := h
  obtain ⟨b1, b2, b3, b4, b5, b6, b7⟩ := h'
  exact ⟨fun a ha hx => (a1 a ha hx).tr (b1 a (by omega) (fun z => hx (hXY a ha z))), b2.trans a2, fun a i j => (b3 a i j).trans (a3 a i j), by omega, by omega, by omega, by omega⟩
theorem G1.mono {X Y : Nat → Prop} {σ τ : Sg} {k j : Nat} (h : G1 X σ τ k) (hXY : ∀ a, a < 2000 + gM σ → X a → Y a) (hk : k ≤ j) : G1 Y σ τ j := by
  obtain ⟨a1, a2, a3, a4, a5, a6, a7⟩ := h
  exact ⟨fun a ha hx => a1 a ha (fun z => hx (hXY a ha z)), a2, a3, a4, by omega, a6, by omega⟩
theorem g1_mkD {X : Nat → Prop} {σ : Sg} {k n z : Nat} (hz : z ≤ 2000) : G1 X σ (mkD σ k n z) 1 :=
  ⟨fun a ha _ => by obtain ⟨m1, m2, m3, m4, m5, m6⟩ := mkD_o (σ := σ) (k := k) (n := n) (z := z) (show a ≠ 2000 + gM σ by omega); exact ⟨m1, m2, m3, m4, m5, m6⟩, rfl, fun _ _ _ => rfl, by rw [gM_mkD]; omega, by rw [gM_mkD]; omega, by rw [gZ_mkD]; omega, by rw [gZ_mkD]; omega⟩
theorem g1_cpB {σ : Sg} {a0 sp a dp n : Nat} : G1 (fun x => x = a) σ (cpB σ a0 sp a dp n) 0 :=
  ⟨fun x _ hx => ⟨fun _ => rfl, fun _ => rfl, fun _ => rfl, fun k => if_neg hx, fun _ => rfl, rfl⟩, rfl, fun _ _ _ => rfl, Nat.le_refl _, by rw [gM_cpB]; omega, Nat.le_refl _, by rw [gZ_cpB]; omega⟩
theorem g1_pI {σ : Sg} {a k : Nat} {v : Int32} : G1 (fun x => x = a) σ (pI σ a k v) 0 :=
  ⟨fun x _ hx => ⟨fun j => u2_n (Or.inl hx), fun _ => rfl, fun _ => rfl, fun _ => rfl, fun _ => rfl, rfl⟩, rfl, fun _ _ _ => rfl, Nat.le_refl _, by rw [gM_pI]; omega, Nat.le_refl _, by rw [gZ_pI]; omega⟩
theorem g1_pJ {σ : Sg} {a k : Nat} {v : Int64} : G1 (fun x => x = a) σ (pJ σ a k v) 0 :=
  ⟨fun x _ hx => ⟨fun _ => rfl, fun j => u2_n (Or.inl hx), fun _ => rfl, fun _ => rfl, fun _ => rfl, rfl⟩, rfl, fun _ _ _ => rfl, Nat.le_refl _, by rw [gM_pJ]; omega, Nat.le_refl _, by rw [gZ_pJ]; omega⟩
theorem g1_pR {σ : Sg} {a k v : Nat} : G1 (fun x => x = a) σ (pR σ a k v) 0 :=
  ⟨fun x _ hx => ⟨fun _ => rfl, fun _ => rfl, fun j => u2_n (Or.inl hx), fun _ => rfl, fun _ => rfl, rfl⟩, rfl, fun _ _ _ => rfl, Nat.le_refl _, by rw [gM_pR]; omega, Nat.le_refl _, by rw [gZ_pR]; omega⟩
theorem g1_wI {σ : Sg} {a k : Nat} {v : Int32} : G1 (fun x => x = a) σ (wI σ a k v) 0 :=
  ⟨fun x _ hx => ⟨fun _ => rfl, fun _ => rfl, fun _ => rfl, fun j => u2_n (Or.inl hx), fun _ => rfl, rfl⟩, rfl, fun _ _ _ => rfl, Nat.le_refl _, by rw [gM_wI]; omega, Nat.le_refl _, by rw [gZ_wI]; omega⟩
theorem g1_wJ {σ : Sg} {a k : Nat} {v : Int64} : G1 (fun x => x = a) σ (wJ σ a k v) 0 :=
  ⟨fun x _ hx => ⟨fun _ => rfl, fun _ => rfl, fun _ => rfl, fun _ => rfl, fun j => u2_n (Or.inl hx), rfl⟩, rfl, fun _ _ _ => rfl, Nat.le_refl _, by rw [gM_wJ]; omega, Nat.le_refl _, by rw [gZ_wJ]; omega⟩
/-! bytes, strings, builders -/
def By (σ : Sg) (v : Nat) (t : List Nat) : Prop := ∀ i, i < t.length → aI σ v i = nI (t.getD i 0)
def Lo (t : List Nat) : Prop := ∀ i, i < t.length → t.getD i 0 < 128
def SbI (σ : Sg) (a : Nat) (t : List Nat) (c : Nat) : Prop :=
  gS σ a = (1, 8) ∧ 2000 ≤ a ∧ a < 2000 + gM σ ∧ gI σ a 1 = 0 ∧ gI σ a 3 = nI t.length ∧ 2000 ≤ gR σ a 0 ∧ gR σ a 0 < 2000 + gM σ ∧ gS σ (gR σ a 0) = (6, c) ∧ t.length ≤ c ∧ c ≤ 1700 ∧ By σ (gR σ a 0) t ∧ Lo t ∧ gN σ = 51
def StI (σ : Sg) (a : Nat) (t : List Nat) : Prop :=
  ((gS σ a = (1, 7) ∧ 2000 ≤ a ∧ a < 2000 + gM σ) ∨ ((gS σ a).1 = 7 ∧ 1000 ≤ a ∧ a < 2000)) ∧ gI σ a 1 = 0 ∧ 1000 ≤ gR σ a 0 ∧ gR σ a 0 < 2000 + gM σ ∧ gS σ (gR σ a 0) = (6, t.length) ∧ By σ (gR σ a 0) t ∧ Lo t
theorem SbI.hh {σ : Sg} {a c : Nat} {t : List Nat} (h : SbI σ a t c) : ckH σ 8 a = true := by
  unfold ckH
  simp [h.1, h.2.1, h.2.2.1]
theorem SbI.p {σ : Sg} {a c : Nat} {t : List Nat} (h : SbI σ a t c) (k : Nat) : ckP σ 8 k a = true := by
  unfold ckP
  rw [h.hh]
  rfl
theorem SbI.v {σ : Sg} {a c : Nat} {t : List Nat} (h : SbI σ a t c) : ckV (gR σ a 0) = true := by
  have := h.2.2.2.2.2.1
  unfold ckV
  simp
  omega
theorem SbI.q {σ : Sg} {a c : Nat} {t : List Nat} (h : SbI σ a t c) : ckQ σ (gR σ a 0) = true := by
  have := h.2.2.2.2.2.1
  unfold ckQ
  simp [h.2.2.2.2.2.2.1, h.2.2.2.2.2.2.2.1, this]
  omega
theorem SbI.ne {σ : Sg} {a c : Nat} {t : List Nat} (h : SbI σ a t c) : a ≠ gR σ a 0 := fun z => by
  have h1 := h.1
  have h2 := h.2.2.2.2.2.2.2.1
  rw [← z, h1] at h2
  cases h2
theorem StI.p {σ : Sg} {a k : Nat} {t : List Nat} (h : StI σ a t) (hk : k < 2) : ckP σ 7 k a = true := by
  unfold ckP ckH
  rcases h.1 with ⟨h1, h2, h3⟩ | ⟨h1, h2, h3⟩
  · simp [h1, h2, h3]
  · simp [h1, h2, h3, hk]
theorem StI.v {σ : Sg} {a : Nat} {t : List Nat} (h : StI σ a t) : ckV (gR σ a 0) = true := by
  have := h.2.2.1
  unfold ckV
  simp
  omega
theorem StI.q {σ : Sg} {a : Nat} {t : List Nat} (h : StI σ a t) : ckQ σ (gR σ a 0) = true := by
  have := h.2.2.1
  unfold ckQ
  simp [h.2.2.2.1, h.2.2.2.2.1, this]
/-- a string stays -/
theorem StI.g {X : Nat → Prop} {σ τ : Sg} {a k : Nat} {t : List Nat} (h : StI σ a t) (hg : G1 X σ τ k) (h1 : ¬ X a) (h2 : ¬ X (gR σ a 0)) : StI τ a t := by
  obtain ⟨a1, a2, a3, a4, a5, a6, a7⟩ := h
  have hm := hg.2.2.2.1
  have hl : a < 2000 + gM σ := by rcases a1 with z | z <;> omega
  obtain ⟨s1, s2, s3, s4, s5, s6⟩ := hg.1 a hl h1
  obtain ⟨r1, r2, r3, r4, r5, r6⟩ := hg.1 _ a4 h2
  refine ⟨?_, by rw [s1]; exact a2, by rw [s3]; exact a3, by rw [s3]; omega, by rw [s3, r6]; exact a5, fun i hi => by rw [s3, r4]; exact a6 i hi, a7⟩
  rw [s6]
  rcases a1 with ⟨z1, z2, z3⟩ | z
  · exact Or.inl ⟨z1, z2, by omega⟩
  · exact Or.inr z
/-- a builder stays -/
theorem SbI.g {X : Nat → Prop} {σ τ : Sg} {a c k : Nat} {t : List Nat} (h : SbI σ a t c) (hg : G1 X σ τ k) (h1 : ¬ X a) (h2 : ¬ X (gR σ a 0)) : SbI τ a t c ∧ gR τ a 0 = gR σ a 0 := by
  obtain ⟨a1, a2, a3, a4, a5, a6, a7, a8, a9, a10, a11, a12, a13⟩ := h
  have hm := hg.2.2.2.1
  obtain ⟨s1, s2, s3, s4, s5, s6⟩ := hg.1 a a3 h1
  obtain ⟨r1, r2, r3, r4, r5, r6⟩ := hg.1 _ a7 h2
  exact ⟨⟨by rw [s6]; exact a1, a2, by omega, by rw [s1]; exact a4, by rw [s1]; exact a5, by rw [s3]; exact a6, by rw [s3]; omega, by rw [s3, r6]; exact a8, a9, a10, fun i hi => by rw [s3, r4]; exact a11 i hi, a12, hg.2.1.trans a13⟩, s3 0⟩
theorem j_coder {σ : Sg} {a : Nat} {t : List Nat} (h : StI σ a t) : DJ0_coder_7d493 a σ = some (0, σ) := by
  unfold DJ0_coder_7d493 DJ0_coder_7d493_14
  rw [if_neg (by decide), h.p (by decide), h.2.1]
  rfl
theorem j_len {σ : Sg} {a : Nat} {t : List Nat} (h : StI σ a t) : DJ0_length_8abf5 a σ = some (nI t.length, σ) := by
  unfold DJ0_length_8abf5
  rw [h.p (by decide), h.v, h.q, j_coder h, h.2.2.2.2.1]
  simp only [chk_true, bnd_some, sb_shr0]
theorem j_isl {σ : Sg} {a c : Nat} {t : List Nat} (h : SbI σ a t c) : DJ5_isLatin1_aae02 a σ = some (1, σ) := by
  unfold DJ5_isLatin1_aae02 DJ5_isLatin1_aae02_18
  rw [if_neg (by decide), h.p, h.2.2.2.1]
  rfl
theorem j_islS {σ : Sg} {a : Nat} {t : List Nat} (h : StI σ a t) : DJ0_isLatin1_aae02 a σ = some (1, σ) := by
  unfold DJ0_isLatin1_aae02 DJ0_isLatin1_aae02_18
  rw [if_neg (by decide), h.p (by decide), h.2.1]
  rfl
/-- the capacity behind c that m asks -/
def cpN (m c : Nat) : Nat := if 2 * c + 2 < m then m else 2 * c + 2
theorem j_newcap {σ : Sg} {a c m : Nat} {t : List Nat} (h : SbI σ a t c) (hm : c < m) (hm2 : m ≤ 800) : DJ5_newCapacity_0f7a4 a (nI m) σ = some (nI (cpN m c), σ) := by
  have hc := h.2.2.2.2.2.2.2.2.2.1
  have e2 : (2 : Int32) <<< ((0 : Int32) &&& 31) = nI 2 := by decide
  have e3 : nI c + (if nI (m - c) < nI (c + 2) then nI (c + 2) else nI (m - c)) = nI (cpN m c) := by
    unfold cpN
    by_cases h2 : m - c < c + 2
    · rw [if_pos (nI_lt h2 (by omega)), nI_add, if_neg (by omega)]
      exact congrArg nI (by omega)
    · rw [if_neg (nI_nlt (by omega) (by omega)), nI_add]
      split <;> exact congrArg nI (by omega)
  have hcp : cpN m c ≤ 1700 ∧ 1 ≤ cpN m c := by
    unfold cpN
    split <;> omega
  unfold DJ5_newCapacity_0f7a4 DJ8_newLength_cabcc
  rw [h.p, h.p, h.v, h.q, h.2.2.2.1, h.2.2.2.2.2.2.2.1]
  simp only [chk_true, sb_shl0, sb_shr0, e2, pk_sub (show c ≤ m by omega), nI_add, e3]
  rw [if_neg (show ¬ nI (cpN m c) ≤ 0 from nI_nle (by omega) (by omega)), if_neg (show ¬ (2147483639 : Int32) < nI (cpN m c) from nI_nlt (a := 2147483639) (by omega) (by decide)), bnd_some, if_neg (fun z => by have := (nI_eq (by omega) (by decide)).mp (show nI (cpN m c) = nI 2147483647 from z); omega)]
  rw [h.2.2.2.1, sb_shr0, h.p, chk_true]
theorem cpy_lo {f g : Nat → Int32} {sp dp n j : Nat} (h : j < dp) : va_cpy f g sp dp n j = g j := if_neg (by omega)
theorem cpy_in {f g : Nat → Int32} {sp dp n j : Nat} (h : dp ≤ j) (h2 : j < dp + n) : va_cpy f g sp dp n j = f (sp + (j - dp)) := if_pos ⟨h, h2⟩
theorem j_copyOf {σ : Sg} {v c m : Nat} (hS : gS σ v = (6, c)) (h1 : 2000 ≤ v) (h2 : v < 2000 + gM σ) (hm : c < m) (hm2 : m ≤ 1700) (hN : gN σ = 51) :
    ∃ σ', DJ7_copyOf_9075b v (nI m) σ = some (2000 + gM σ, σ') ∧ G1 (fun _ => False) σ σ' 1 ∧ gS σ' (2000 + gM σ) = (6, m) ∧ gM σ' = gM σ + 1 ∧ ∀ i, i < c → aI σ' (2000 + gM σ) i = aI σ v i := by
  have hne : v ≠ 2000 + gM σ := by omega
  have e1 : ckQ σ v = true := by unfold ckQ; simp [hS, h1, h2]; omega
  have e2 : ckn (nI m) = true := by
    unfold ckn
    simp only [Bool.and_eq_true, decide_eq_true_eq]
    exact ⟨nI_pos' (by omega), (le_nI (b := 60000) (by omega) (by decide)).mpr (by omega)⟩
  have e3 : imin (nI c) (nI m) = nI c := by unfold imin; rw [if_neg (nI_nlt (by omega) (by omega))]
  have hs1 : gS (mkD σ 6 m m) v = (6, c) := by rw [gS_mkD, if_neg hne, hS]
  have hs2 : gS (mkD σ 6 m m) (2000 + gM σ) = (6, m) := by rw [gS_mkD, if_pos rfl]
  have e4 : ckY (mkD σ 6 m m) v 0 (2000 + gM σ) 0 (nI c) = true := by
    unfold ckY
    rw [hs1, hs2, gM_mkD, sb_cl0, nI_clamp (show c < 2 ^ 31 by omega)]
    simp only [Bool.and_eq_true, decide_eq_true_eq]
    refine ⟨⟨⟨⟨⟨⟨⟨⟨⟨⟨?_, ?_⟩, ?_⟩, ?_⟩, ?_⟩, ?_⟩, ?_⟩, ?_⟩, ?_⟩, ?_⟩, ?_⟩ <;> first | trivial | omega | exact nI_pos' (by omega)
  refine ⟨cpB (mkD σ 6 m m) v 0 (2000 + gM σ) 0 c, ?_, ?_, ?_, rfl, fun i hi => ?_⟩
  · unfold DJ7_copyOf_9075b DJ7_copyOf_9075b_17
    rw [e1, chk_true, hS, if_neg (fun z => by have := (nI_eq (by omega) (by omega)).mp (show nI m = nI c from z); omega), e2, chk_true, show ck51 σ = true from decide_eq_true hN, chk_true, wlet_eq, nI_clamp (by omega)]
    have e5 : ckQ (mkD σ 6 m m) v = true := by
      unfold ckQ
      rw [hs1, gM_mkD]
      simp [h1]
      omega
    rw [e5, chk_true, gS_mkD, if_neg hne, hS, e3, e4, chk_true, wlet_eq, sb_cl0, nI_clamp (by omega)]
  · have := (g1_mkD (X := fun _ => False) (σ := σ) (k := 6) (n := m) (z := m) (by omega)).tr (g1_cpB (σ := mkD σ 6 m m) (a0 := v) (sp := 0) (a := 2000 + gM σ) (dp := 0) (n := c)) (fun a ha z => by omega)
    exact this
  · rw [gS_cpB, gS_mkD, if_pos rfl]
  · rw [aI_cpB, if_pos rfl, cpy_in (by omega) (by omega), aI_mkD, if_neg hne]
    exact congrArg _ (by omega)
theorem j_ens {σ : Sg} {a c m : Nat} {t : List Nat} (h : SbI σ a t c) (hm2 : m ≤ 800) :
    ∃ σ' c', DJ5_ensureCapacityInternal_d00df a (nI m) σ = some ((), σ') ∧ G1 (fun x => x = a) σ σ' 1 ∧ SbI σ' a t c' ∧ m ≤ c' ∧ (gR σ' a 0 = gR σ a 0 ∨ 2000 + gM σ ≤ gR σ' a 0) := by
  have hc := h.2.2.2.2.2.2.2.2.2.1
  unfold DJ5_ensureCapacityInternal_d00df
  rw [h.p, h.p, h.v, h.q, h.2.2.2.1, h.2.2.2.2.2.2.2.1]
  simp only [chk_true, sb_shr0]
  by_cases hcm : m ≤ c
  · refine ⟨σ, c, ?_, G1.rf.mono (fun _ _ z => z) (by omega), h, hcm, Or.inl rfl⟩
    rw [if_pos ?_]
    · rfl
    · rw [Int32.le_iff_toInt_le, pk_sub_toInt (by omega) (by omega), Int32.toInt_zero]
      omega
  · have hcp : m ≤ cpN m c ∧ cpN m c ≤ 1700 ∧ c < cpN m c := by
      unfold cpN
      split <;> omega
    rw [if_neg ?_, j_newcap h (by omega) hm2, bnd_some, h.p, chk_true, h.2.2.2.1, sb_shl0]
    · obtain ⟨τ, e1, g1, g2, g3, g4⟩ := j_copyOf (m := cpN m c) h.2.2.2.2.2.2.2.1 h.2.2.2.2.2.1 h.2.2.2.2.2.2.1 (by omega) (by omega) h.2.2.2.2.2.2.2.2.2.2.2.2
      obtain ⟨hS, hR⟩ := h.g g1 (fun z => z) (fun z => z)
      have hne : ¬ gR σ a 0 = a := fun z => h.ne z.symm
      have hne2 : ¬ 2000 + gM σ = a := fun z => by have := h.2.2.1; omega
      refine ⟨pR τ a 0 (2000 + gM σ), cpN m c, ?_, ?_, ?_, hcp.1, Or.inr ?_⟩
      · rw [e1, bnd_some, DJ5_ensureCapacityInternal_d00df_35, hS.hh, show ckV (2000 + gM σ) = true from decide_eq_true (by omega)]
        rfl
      · exact (g1.mono (fun _ _ z => z.elim) (Nat.le_refl 1)).tr g1_pR (fun _ _ z => z)
      · obtain ⟨a1, a2, a3, a4, a5, a6, a7, a8, a9, a10, a11, a12, a13⟩ := hS
        have eR : gR (pR τ a 0 (2000 + gM σ)) a 0 = 2000 + gM σ := by rw [gR_pR, if_pos ⟨rfl, rfl⟩]
        refine ⟨a1, a2, a3, a4, a5, by rw [eR]; omega, by rw [eR, gM_pR]; omega, by rw [eR]; exact g2, by have := h.2.2.2.2.2.2.2.2.1; omega, by omega, fun i hi => ?_, a12, a13⟩
        rw [eR, aI_pR, g4 i (by have := h.2.2.2.2.2.2.2.2.1; omega)]
        exact h.2.2.2.2.2.2.2.2.2.2.1 i hi
      · rw [gR_pR, if_pos ⟨rfl, rfl⟩]
        exact Nat.le_refl _
    · rw [Int32.le_iff_toInt_le, pk_sub_toInt (by omega) (by omega), Int32.toInt_zero]
      omega

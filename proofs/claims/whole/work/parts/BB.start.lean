/-! THE STATE AT THE START: what the constructors make -/
/-- the model lays its ways where no leg is told: it ends, and writes nothing else -/
def Ly (τ : Sg) : Prop := gR τ 51 19 = 60 ∧ gI τ 51 5 = 0 ∧ 82 ≤ gN τ
theorem Ly.o {τ : Sg} (h : Ly τ) : ckO τ 6 51 = true := by
  have h3 := h.2.2
  unfold ckO
  rw [decide_eq_true (show shp 51 = (1, 6, 0) from rfl), decide_eq_true (show 51 < gN τ by omega)]
  rfl
theorem Ly.i {τ : Sg} (h : Ly τ) : ∀ j, j < 144 → ckI τ 60 (nI j) = true := by
  intro j hj
  have h3 := h.2.2
  unfold ckI
  rw [decide_eq_true (show (shp 60).1 = 2 from rfl), decide_eq_true (show 60 < gN τ by omega), show inb (nI j) (shp 60).2.1 = true from inbn (n := 144) hj (by omega)]
  rfl
theorem ly_v : ckV 60 = true := rfl
theorem ly_leg {τ : Sg} (h : Ly τ) (x y : Int32) : DX8_legOf 51 x y τ = some (1000000, τ) := by
  unfold DX8_legOf
  rw [show FU = 4095 + 1 from rfl, DX8_legOf_2, h.o, chk_true, h.2.1, if_pos (by decide)]
  rfl
theorem ly10 {τ0 : Sg} {K2 : Nat → Int32 → Sg → Option (Unit × Sg)} {Q : Unit → Sg → Prop} {k : Nat} (hk : k < 12) (hK : ∀ υ, Ly υ → Fr (fF []) (fA [60]) τ0 υ → Ok (K2 51 (nI (k + 1)) υ) Q) :
    ∀ (d i m : Nat) (τ : Sg), i + d = 12 → d < m → Ly τ → Fr (fF []) (fA [60]) τ0 τ → Ok (DX8_laysMiles_10 K2 m 51 (nI k) (nI i) τ) Q := by
  intro d
  induction d with
  | zero =>
    intro i m τ hi hm hL hf
    obtain ⟨m, rfl⟩ : ∃ k, m = k + 1 := ⟨m - 1, by omega⟩
    obtain rfl : i = 12 := by omega
    rw [DX8_laysMiles_10, if_pos (by decide)]
    unfold DX8_laysMiles_48
    rw [add_nI_1]
    exact hK τ hL hf
  | succ d ih =>
    intro i m τ hi hm hL hf
    obtain ⟨m, rfl⟩ : ∃ k, m = k + 1 := ⟨m - 1, by omega⟩
    have n12 : ¬ (12 : Int32) ≤ nI i := by
      have a : ∀ i, i < 12 → ¬ (12 : Int32) ≤ nI i := by decide
      exact a i (by omega)
    rw [DX8_laysMiles_10, if_neg n12, hL.o, chk_true, hL.1, ly_v, chk_true, mul_nI_12, nI_add]
    unfold DX8_laysMiles_41
    by_cases c : nI k = nI i
    · rw [if_pos c, hL.i _ (by omega), chk_true, wlet_eq, add_nI_1]
      exact ih (i + 1) m _ (by omega) (by omega) hL (hf.wI 60 _ _ (by decide))
    · rw [if_neg c, chk_true, ly_leg hL, bnd_some, hL.i _ (by omega), chk_true, wlet_eq, add_nI_1]
      exact ih (i + 1) m _ (by omega) (by omega) hL (hf.wI 60 _ _ (by decide))
theorem ly2 {τ0 : Sg} {Q : Unit → Sg → Prop} (hK : ∀ υ, Ly υ → Fr (fF []) (fA [60]) τ0 υ → Ok (DX8_laysMiles_54 51 υ) Q) :
    ∀ (d i m : Nat) (τ : Sg), i + d = 12 → d < m → Ly τ → Fr (fF []) (fA [60]) τ0 τ → Ok (DX8_laysMiles_2 m 51 (nI i) τ) Q := by
  intro d
  induction d with
  | zero =>
    intro i m τ hi hm hL hf
    obtain ⟨m, rfl⟩ : ∃ k, m = k + 1 := ⟨m - 1, by omega⟩
    obtain rfl : i = 12 := by omega
    rw [DX8_laysMiles_2, if_pos (by decide)]
    exact hK τ hL hf
  | succ d ih =>
    intro i m τ hi hm hL hf
    obtain ⟨m, rfl⟩ : ∃ k, m = k + 1 := ⟨m - 1, by omega⟩
    have n12 : ¬ (12 : Int32) ≤ nI i := by
      have a : ∀ i, i < 12 → ¬ (12 : Int32) ≤ nI i := by decide
      exact a i (by omega)
    rw [DX8_laysMiles_2, if_neg n12]
    exact ly10 (by omega) (fun υ hu hg => ih (i + 1) m υ (by omega) (by omega) hu hg) 12 0 FU τ (by omega) (by unfold FU; omega) hL hf
theorem ly72 {τ0 : Sg} {K56 : Nat → Int32 → Sg → Option (Unit × Sg)} {K64 : Nat → Int32 → Int32 → Sg → Option (Unit × Sg)} {Q : Unit → Sg → Prop} {k x : Nat} (hk : k < 12) (hx : x < 12) (hK : ∀ υ, Ly υ → Fr (fF []) (fA [60]) τ0 υ → Ok (K64 51 (nI k) (nI (x + 1)) υ) Q) :
    ∀ (d i m : Nat) (τ : Sg), i + d = 12 → d < m → Ly τ → Fr (fF []) (fA [60]) τ0 τ → Ok (DX8_laysMiles_72 K56 K64 m 51 (nI k) (nI x) (nI i) τ) Q := by
  intro d
  induction d with
  | zero =>
    intro i m τ hi hm hL hf
    obtain ⟨m, rfl⟩ : ∃ k, m = k + 1 := ⟨m - 1, by omega⟩
    obtain rfl : i = 12 := by omega
    rw [DX8_laysMiles_72, if_pos (by decide)]
    unfold DX8_laysMiles_136
    rw [add_nI_1]
    exact hK τ hL hf
  | succ d ih =>
    intro i m τ hi hm hL hf
    obtain ⟨m, rfl⟩ : ∃ k, m = k + 1 := ⟨m - 1, by omega⟩
    have n12 : ¬ (12 : Int32) ≤ nI i := by
      have a : ∀ i, i < 12 → ¬ (12 : Int32) ≤ nI i := by decide
      exact a i (by omega)
    rw [DX8_laysMiles_72, if_neg n12]
    simp only [hL.o, chk_true, hL.1, ly_v, mul_nI_12, nI_add]
    rw [hL.i (12 * x + k) (by omega), chk_true, hL.i (12 * k + i) (by omega), chk_true, hL.i (12 * x + i) (by omega), chk_true, chk_true, wlet_eq, add_nI_1]
    exact ih (i + 1) m _ (by omega) (by omega) hL (hf.wI 60 _ _ (by decide))
theorem ly64 {τ0 : Sg} {K56 : Nat → Int32 → Sg → Option (Unit × Sg)} {Q : Unit → Sg → Prop} {k : Nat} (hk : k < 12) (hK : ∀ υ, Ly υ → Fr (fF []) (fA [60]) τ0 υ → Ok (K56 51 (nI (k + 1)) υ) Q) :
    ∀ (d i m : Nat) (τ : Sg), i + d = 12 → d < m → Ly τ → Fr (fF []) (fA [60]) τ0 τ → Ok (DX8_laysMiles_64 K56 m 51 (nI k) (nI i) τ) Q := by
  intro d
  induction d with
  | zero =>
    intro i m τ hi hm hL hf
    obtain ⟨m, rfl⟩ : ∃ k, m = k + 1 := ⟨m - 1, by omega⟩
    obtain rfl : i = 12 := by omega
    rw [DX8_laysMiles_64, if_pos (by decide)]
    unfold DX8_laysMiles_142
    rw [add_nI_1]
    exact hK τ hL hf
  | succ d ih =>
    intro i m τ hi hm hL hf
    obtain ⟨m, rfl⟩ : ∃ k, m = k + 1 := ⟨m - 1, by omega⟩
    have n12 : ¬ (12 : Int32) ≤ nI i := by
      have a : ∀ i, i < 12 → ¬ (12 : Int32) ≤ nI i := by decide
      exact a i (by omega)
    rw [DX8_laysMiles_64, if_neg n12]
    exact ly72 hk (by omega) (fun υ hu hg => ih (i + 1) m υ (by omega) (by omega) hu hg) 12 0 FU τ (by omega) (by unfold FU; omega) hL hf
theorem ly56 {τ0 : Sg} {Q : Unit → Sg → Prop} (hK : ∀ υ, Ly υ → Fr (fF []) (fA [60]) τ0 υ → Q () υ) :
    ∀ (d i m : Nat) (τ : Sg), i + d = 12 → d < m → Ly τ → Fr (fF []) (fA [60]) τ0 τ → Ok (DX8_laysMiles_56 m 51 (nI i) τ) Q := by
  intro d
  induction d with
  | zero =>
    intro i m τ hi hm hL hf
    obtain ⟨m, rfl⟩ : ∃ k, m = k + 1 := ⟨m - 1, by omega⟩
    obtain rfl : i = 12 := by omega
    rw [DX8_laysMiles_56, if_pos (by decide)]
    unfold DX8_laysMiles_148
    exact ok_some.mpr (hK τ hL hf)
  | succ d ih =>
    intro i m τ hi hm hL hf
    obtain ⟨m, rfl⟩ : ∃ k, m = k + 1 := ⟨m - 1, by omega⟩
    have n12 : ¬ (12 : Int32) ≤ nI i := by
      have a : ∀ i, i < 12 → ¬ (12 : Int32) ≤ nI i := by decide
      exact a i (by omega)
    rw [DX8_laysMiles_56, if_neg n12]
    exact ly64 (by omega) (fun υ hu hg => ih (i + 1) m υ (by omega) (by omega) hu hg) 12 0 FU τ (by omega) (by unfold FU; omega) hL hf
theorem ly_all {τ : Sg} (h : Ly τ) : Ok (DX8_laysMiles 51 τ) (fun _ ω => Fr (fF []) (fA [60]) τ ω) := by
  unfold DX8_laysMiles
  rw [show (0 : Int32) = nI 0 from rfl]
  refine ly2 (τ0 := τ) (fun υ hu hf => ?_) 12 0 FU τ (by omega) (by unfold FU; omega) h Fr.rf
  unfold DX8_laysMiles_54
  rw [show (0 : Int32) = nI 0 from rfl]
  exact ly56 (τ0 := τ) (fun ω _ hg => hg) 12 0 FU υ (by omega) (by unfold FU; omega) hu hf

/-! THE LAW'S NUMBERS: out of the script's cells -/
def scel (L : Nat) (xs : Nat → Int32) (k : Nat) : Int32 := if k < L then xs k else 0
/-- the script as the law reads it -/
def Sc (c : Nat → Int32) (σ : Sg) : Prop := ∀ k, k < 60 → DL_cell 1024 (nI k) σ = some (c k, σ)
theorem OutP.sc {L : Nat} {xs : Nat → Int32} {σ : Sg} (h : OutP L xs σ) (hL : L < 2147483648) : Sc (scel L xs) σ := by
  intro k hk
  obtain ⟨o1, o2, -⟩ := h 1024 (by decide) (by decide)
  have hS : gS σ 1024 = (2, L) := o1
  have hx : ∀ j, aI σ 1024 j = xs j := o2
  have e1 : ckQ σ 1024 = true := by
    unfold ckQ
    simp [hS]
    omega
  unfold DL_cell DL_cell_13 scel
  rw [e1, chk_true, hS]
  by_cases q : k < L
  · have e2 : ckA σ 2 1024 (nI k) = true := by
      unfold ckA
      simp [hS, inb_nI q (show L < 2 ^ 31 by omega)]
      omega
    rw [if_pos q, if_neg (fun z => by have := (nI_leI (by omega) (by omega)).mp z; omega), e2, chk_true, nI_clamp (by omega), hx]
  · rw [if_neg q, if_pos ((nI_leI (by omega) (by omega)).mpr (by omega))]
def inF (x : Int32) (m : Nat) : Nat := (x.toBitVec.toNat % 2147483648) % m
theorem inF_lt {x : Int32} {m : Nat} (h : 0 < m) : inF x m < m := Nat.mod_lt _ h
theorem and31 (x : Int32) : x &&& (2147483647 : Int32) = nI (x.toBitVec.toNat % 2147483648) := by
  refine Int32.toBitVec_inj.mp ?_
  rw [Int32.toBitVec_and]
  refine BitVec.eq_of_toNat_eq ?_
  have e1 : (2147483647 : Int32).toBitVec.toNat = 2 ^ 31 - 1 := by decide
  have e2 : (nI (x.toBitVec.toNat % 2147483648)).toBitVec.toNat = x.toBitVec.toNat % 2147483648 := by
    show (BitVec.ofNat 32 (x.toBitVec.toNat % 2147483648)).toNat = _
    rw [BitVec.toNat_ofNat]
    exact Nat.mod_eq_of_lt (by have := Nat.mod_lt x.toBitVec.toNat (show 0 < 2147483648 by decide); omega)
  rw [BitVec.toNat_and, e1, e2, Nat.and_two_pow_sub_one_eq_mod]
theorem n_in {σ : Sg} {x m : Int32} {k : Nat} (hm : m = nI k) (h0 : 0 < k) (hk : k < 2147483648) : DL_in x m σ = some (nI (inF x k), σ) := by
  have hb : x.toBitVec.toNat % 2147483648 < 2147483648 := Nat.mod_lt _ (by decide)
  have e0 : ckN m = true := by
    unfold ckN
    rw [hm]
    exact decide_eq_true (fun z => by have := (nI_eq (b := 0) hk (by decide)).mp z; omega)
  unfold DL_in
  rw [e0, chk_true, and31, hm, i32_mod hb h0 hk]
  rfl
def nPl (c : Nat → Int32) : Nat := 2 + inF (c 0) 4
def nCa (c : Nat → Int32) : Nat := 1 + inF (c 0 / 4) 4
def nPr (c : Nat → Int32) : Nat := inF (c 0 / 16) 6
def nBd (c : Nat → Int32) : Nat := inF (c 0 / 128) 3
def nTk (c : Nat → Int32) : Nat := 1 + inF (c 0 / 512) 3
def nBs (c : Nat → Int32) : Nat := inF (c 0 / 2048) 4
def nRt (c : Nat → Int32) : Nat := if inF (c 0 / 8192) 2 = 0 then 10 else 1 + inF (c 0 / 16384) 40
def nLg (c : Nat → Int32) (p : Nat) : Nat := 1 + inF (c 1 >>> (((5 : Int32) * nI p) &&& 31)) 32
def nRg (c : Nat → Int32) : Nat := if 2 < nPl c ∧ inF (c 2) 2 = 0 then 1 + inF (c 2 / 2) 90 else 0
def nUp (c : Nat → Int32) (b : Nat) : Nat := 10 + inF (c 2 / 512) 30 + 40 * b
def nWt (c : Nat → Int32) (b : Nat) : Nat := 50 + inF (c 2 >>> (((16 : Int32) + ((5 : Int32) * nI b)) &&& 31)) 200
def pC (c : Nat → Int32) (p : Nat) : Nat := inF (c (3 + p)) (nCa c)
def pX (c : Nat → Int32) (p : Nat) : Nat := inF (c (3 + p) / 4) (nPl c)
def pA (c : Nat → Int32) (p : Nat) : Bool := decide (inF (c (3 + p) / 32) 2 = 0)
def pY (c : Nat → Int32) (p : Nat) : Nat := (pX c p + 1 + inF (c (3 + p) / 64) (nPl c - 1)) % nPl c
def pK (c : Nat → Int32) (p : Nat) : Nat := 1 + inF (c (3 + p) / 256) 4
def pV (c : Nat → Int32) (p : Nat) : Nat := if pK c p = 2 then 1 + inF (c (3 + p) / 1024) 60 else 1 + inF (c (3 + p) / 1024) 700
def pW (c : Nat → Int32) (p : Nat) : Bool := decide (1 < nCa c) && decide (inF (c (3 + p) / 1048576) 3 = 0)
def pO (c : Nat → Int32) (p : Nat) : Nat := (pC c p + 1) % nCa c
def bC (c : Nat → Int32) (k : Nat) : Nat := k % nCa c
def bP (c : Nat → Int32) (k : Nat) : Nat := k / nCa c % (nPl c - 1)
def bV (c : Nat → Int32) (k : Nat) : Nat := 1 + inF (c (9 + k)) 900
def bI (c : Nat → Int32) (k : Nat) : Bool := decide (k < nCa c * (nPl c - 1))
def nF (c : Nat → Int32) (t : Nat) : Nat := 1 + inF (c (13 + t)) 3000
def nH (c : Nat → Int32) (t : Nat) : Nat := inF (c (13 + t) / 4096) 2
def nCo (c : Nat → Int32) (t : Nat) : Nat := 1 + inF (c (13 + t) / 8192) 5
def nCr (c : Nat → Int32) (t k : Nat) : Nat := inF (c (16 + t) >>> (((2 : Int32) * nI k) &&& 31)) (nCa c)
def nSt (c : Nat → Int32) (t i : Nat) : Nat := inF (c (16 + t) >>> (((12 : Int32) + ((3 : Int32) * nI i)) &&& 31)) (nPl c - 1)
def nAt (c : Nat → Int32) (t : Nat) : Nat → Nat
  | 0 => inF (c (16 + t) >>> ((10 : Int32) &&& 31)) (nPl c)
  | i + 1 => (nAt c t i + 1 + nSt c t i) % nPl c
theorem nPl_b (c : Nat → Int32) : 2 ≤ nPl c ∧ nPl c ≤ 5 := by
  have := inF_lt (x := c 0) (show 0 < 4 by decide)
  unfold nPl; omega
theorem nCa_b (c : Nat → Int32) : 1 ≤ nCa c ∧ nCa c ≤ 4 := by
  have := inF_lt (x := c 0 / 4) (show 0 < 4 by decide)
  unfold nCa; omega
theorem nPr_b (c : Nat → Int32) : nPr c ≤ 5 := by
  have := inF_lt (x := c 0 / 16) (show 0 < 6 by decide)
  unfold nPr; omega
theorem nBd_b (c : Nat → Int32) : nBd c ≤ 2 := by
  have := inF_lt (x := c 0 / 128) (show 0 < 3 by decide)
  unfold nBd; omega
theorem nTk_b (c : Nat → Int32) : 1 ≤ nTk c ∧ nTk c ≤ 3 := by
  have := inF_lt (x := c 0 / 512) (show 0 < 3 by decide)
  unfold nTk; omega
theorem nBs_b (c : Nat → Int32) : nBs c ≤ 3 := by
  have := inF_lt (x := c 0 / 2048) (show 0 < 4 by decide)
  unfold nBs; omega
theorem nRt_b (c : Nat → Int32) : 1 ≤ nRt c ∧ nRt c ≤ 40 := by
  have := inF_lt (x := c 0 / 16384) (show 0 < 40 by decide)
  unfold nRt; split <;> omega
theorem nLg_b (c : Nat → Int32) (p : Nat) : 1 ≤ nLg c p ∧ nLg c p ≤ 32 := by
  have := inF_lt (x := c 1 >>> (((5 : Int32) * nI p) &&& 31)) (show 0 < 32 by decide)
  unfold nLg; omega
theorem nRg_b (c : Nat → Int32) : nRg c ≤ 90 := by
  have := inF_lt (x := c 2 / 2) (show 0 < 90 by decide)
  unfold nRg; split <;> omega
theorem nUp_b (c : Nat → Int32) (b : Nat) : 10 + 40 * b ≤ nUp c b ∧ nUp c b ≤ 39 + 40 * b := by
  have := inF_lt (x := c 2 / 512) (show 0 < 30 by decide)
  unfold nUp; omega
theorem nWt_b (c : Nat → Int32) (b : Nat) : 50 ≤ nWt c b ∧ nWt c b ≤ 249 := by
  have := inF_lt (x := c 2 >>> (((16 : Int32) + ((5 : Int32) * nI b)) &&& 31)) (show 0 < 200 by decide)
  unfold nWt; omega
theorem pC_b (c : Nat → Int32) (p : Nat) : pC c p < nCa c := inF_lt (by have := nCa_b c; omega)
theorem pX_b (c : Nat → Int32) (p : Nat) : pX c p < nPl c := inF_lt (by have := nPl_b c; omega)
theorem pY_b (c : Nat → Int32) (p : Nat) : pY c p < nPl c := Nat.mod_lt _ (by have := nPl_b c; omega)
theorem pXY (c : Nat → Int32) (p : Nat) : pX c p ≠ pY c p := by
  have hp := nPl_b c
  have h1 := pX_b c p
  have h2 := inF_lt (x := c (3 + p) / 64) (m := nPl c - 1) (by omega)
  unfold pY
  by_cases q : pX c p + 1 + inF (c (3 + p) / 64) (nPl c - 1) < nPl c
  · rw [Nat.mod_eq_of_lt q]; omega
  · rw [Nat.mod_eq_sub_mod (by omega), Nat.mod_eq_of_lt (by omega)]; omega
theorem pK_b (c : Nat → Int32) (p : Nat) : 1 ≤ pK c p ∧ pK c p ≤ 4 := by
  have := inF_lt (x := c (3 + p) / 256) (show 0 < 4 by decide)
  unfold pK; omega
theorem pV_b (c : Nat → Int32) (p : Nat) : 1 ≤ pV c p ∧ pV c p ≤ 700 ∧ (pK c p = 2 → pV c p ≤ 60) := by
  have h1 := inF_lt (x := c (3 + p) / 1024) (show 0 < 60 by decide)
  have h2 := inF_lt (x := c (3 + p) / 1024) (show 0 < 700 by decide)
  unfold pV; split <;> omega
theorem pO_b (c : Nat → Int32) (p : Nat) : pO c p < nCa c := Nat.mod_lt _ (by have := nCa_b c; omega)
theorem bC_b (c : Nat → Int32) (k : Nat) : bC c k < nCa c := Nat.mod_lt _ (by have := nCa_b c; omega)
theorem bP_b (c : Nat → Int32) (k : Nat) : bP c k + 1 < nPl c := by
  have hp := nPl_b c
  have : bP c k < nPl c - 1 := Nat.mod_lt _ (by omega)
  omega
theorem bV_b (c : Nat → Int32) (k : Nat) : 1 ≤ bV c k ∧ bV c k ≤ 900 := by
  have := inF_lt (x := c (9 + k)) (show 0 < 900 by decide)
  unfold bV; omega
theorem nF_b (c : Nat → Int32) (t : Nat) : 1 ≤ nF c t ∧ nF c t ≤ 3000 := by
  have := inF_lt (x := c (13 + t)) (show 0 < 3000 by decide)
  unfold nF; omega
theorem nH_b (c : Nat → Int32) (t : Nat) : nH c t ≤ 1 := by
  have := inF_lt (x := c (13 + t) / 4096) (show 0 < 2 by decide)
  unfold nH; omega
theorem nCo_b (c : Nat → Int32) (t : Nat) : 1 ≤ nCo c t ∧ nCo c t ≤ 5 := by
  have := inF_lt (x := c (13 + t) / 8192) (show 0 < 5 by decide)
  unfold nCo; omega
theorem nCr_b (c : Nat → Int32) (t k : Nat) : nCr c t k < nCa c := inF_lt (by have := nCa_b c; omega)
theorem nSt_b (c : Nat → Int32) (t k : Nat) : nSt c t k < nPl c - 1 := inF_lt (by have := nPl_b c; omega)
theorem nAt_b (c : Nat → Int32) (t : Nat) : ∀ k, nAt c t k < nPl c
  | 0 => inF_lt (by have := nPl_b c; omega)
  | _ + 1 => Nat.mod_lt _ (by have := nPl_b c; omega)
theorem nAt_ne (c : Nat → Int32) (t k : Nat) : nAt c t k ≠ nAt c t (k + 1) := by
  have hp := nPl_b c
  have h1 := nAt_b c t k
  have h2 := nSt_b c t k
  show nAt c t k ≠ (nAt c t k + 1 + nSt c t k) % nPl c
  by_cases q : nAt c t k + 1 + nSt c t k < nPl c
  · rw [Nat.mod_eq_of_lt q]; omega
  · rw [Nat.mod_eq_sub_mod (by omega), Nat.mod_eq_of_lt (by omega)]; omega
section
variable {c : Nat → Int32} {σ : Sg}
theorem ckN_n {k : Nat} (h0 : 0 < k) (hk : k < 2147483648) : ckN (nI k) = true := by
  unfold ckN
  exact decide_eq_true (fun z => by have := (nI_eq (b := 0) hk (by decide)).mp z; omega)
theorem z_nI {k : Nat} (hk : k < 2147483648) : (nI k = (0 : Int32)) = (k = 0) := eq_nI (b := 0) hk (by decide)
theorem n_places (h : Sc c σ) : DL_places 1024 σ = some (nI (nPl c), σ) := by
  unfold DL_places
  rw [show (0 : Int32) = nI 0 from rfl, h 0 (by decide), bnd_some, n_in (m := 4) (k := 4) rfl (by decide) (by decide), bnd_some, show (2 : Int32) = nI 2 from rfl, nI_add]
  rfl
theorem n_carriers (h : Sc c σ) : DL_carriers 1024 σ = some (nI (nCa c), σ) := by
  unfold DL_carriers
  rw [show DL_cell 1024 (0 : Int32) σ = some (c 0, σ) from h 0 (by decide), bnd_some, show ckN (4 : Int32) = true by decide, chk_true, n_in (m := 4) (k := 4) rfl (by decide) (by decide), bnd_some, show (1 : Int32) = nI 1 from rfl, nI_add]
  rfl
theorem n_provisos (h : Sc c σ) : DL_provisos 1024 σ = some (nI (nPr c), σ) := by
  unfold DL_provisos
  rw [show DL_cell 1024 (0 : Int32) σ = some (c 0, σ) from h 0 (by decide), bnd_some, show ckN (16 : Int32) = true by decide, chk_true, n_in (m := 6) (k := 6) rfl (by decide) (by decide), bnd_some]
  rfl
theorem n_bands (h : Sc c σ) : DL_bands 1024 σ = some (nI (nBd c), σ) := by
  unfold DL_bands
  rw [show DL_cell 1024 (0 : Int32) σ = some (c 0, σ) from h 0 (by decide), bnd_some, show ckN (128 : Int32) = true by decide, chk_true, n_in (m := 3) (k := 3) rfl (by decide) (by decide), bnd_some]
  rfl
theorem n_tickets (h : Sc c σ) : DL_tickets 1024 σ = some (nI (nTk c), σ) := by
  unfold DL_tickets
  rw [show DL_cell 1024 (0 : Int32) σ = some (c 0, σ) from h 0 (by decide), bnd_some, show ckN (512 : Int32) = true by decide, chk_true, n_in (m := 3) (k := 3) rfl (by decide) (by decide), bnd_some, show (1 : Int32) = nI 1 from rfl, nI_add]
  rfl
theorem n_bases (h : Sc c σ) : DL_bases 1024 σ = some (nI (nBs c), σ) := by
  unfold DL_bases
  rw [show DL_cell 1024 (0 : Int32) σ = some (c 0, σ) from h 0 (by decide), bnd_some, show ckN (2048 : Int32) = true by decide, chk_true, n_in (m := 4) (k := 4) rfl (by decide) (by decide), bnd_some]
  rfl
theorem n_rate (h : Sc c σ) : DL_rate 1024 σ = some (nI (nRt c), σ) := by
  have h2 := inF_lt (x := c 0 / 8192) (show 0 < 2 by decide)
  unfold DL_rate DL_rate_37 nRt
  rw [show DL_cell 1024 (0 : Int32) σ = some (c 0, σ) from h 0 (by decide), bnd_some, show ckN (8192 : Int32) = true by decide, chk_true, n_in (m := 2) (k := 2) rfl (by decide) (by decide), bnd_some]
  by_cases q : inF (c 0 / 8192) 2 = 0
  · rw [if_pos q, if_pos (by rw [q]; rfl)]
    rfl
  · rw [if_neg q, if_neg (show ¬ nI (inF (c 0 / 8192) 2) = (0 : Int32) by rw [z_nI (by omega)]; exact q), show DL_cell 1024 (0 : Int32) σ = some (c 0, σ) from h 0 (by decide), bnd_some, show ckN (16384 : Int32) = true by decide, chk_true, n_in (m := 40) (k := 40) rfl (by decide) (by decide), bnd_some, show (1 : Int32) = nI 1 from rfl, nI_add]
theorem n_leg (h : Sc c σ) (p : Nat) : DL_leg 1024 (nI p) σ = some (nI (nLg c p), σ) := by
  unfold DL_leg
  rw [show DL_cell 1024 (1 : Int32) σ = some (c 1, σ) from h 1 (by decide), bnd_some, n_in (m := 32) (k := 32) rfl (by decide) (by decide), bnd_some, show (1 : Int32) + nI (inF (c 1 >>> (((5 : Int32) * nI p) &&& 31)) 32) = nI (nLg c p) from nI_add _ _]
theorem n_ring (h : Sc c σ) : DL_ring 1024 σ = some (nI (nRg c), σ) := by
  have hp := nPl_b c
  have h2 := inF_lt (x := c 2) (show 0 < 2 by decide)
  unfold DL_ring DL_ring_37 DL_ring_38 nRg
  rw [n_places h, bnd_some]
  have l2 : (nI (nPl c) ≤ (2 : Int32)) = (nPl c ≤ 2) := le_nI (b := 2) (by omega) (by decide)
  have hc : DL_cell 1024 (2 : Int32) σ = some (c 2, σ) := h 2 (by decide)
  by_cases q : 2 < nPl c
  · rw [if_neg (show ¬ nI (nPl c) ≤ (2 : Int32) by rw [l2]; omega), hc, bnd_some, n_in (m := 2) (k := 2) rfl (by decide) (by decide), bnd_some]
    by_cases q2 : inF (c 2) 2 = 0
    · rw [if_pos (show nI (inF (c 2) 2) = (0 : Int32) by rw [z_nI (by omega)]; exact q2), hc, bnd_some, show ckN (2 : Int32) = true by decide, chk_true, n_in (m := 90) (k := 90) rfl (by decide) (by decide), bnd_some, show (1 : Int32) = nI 1 from rfl, nI_add, if_pos ⟨q, q2⟩]
    · rw [if_neg (show ¬ nI (inF (c 2) 2) = (0 : Int32) by rw [z_nI (by omega)]; exact q2), if_neg (show ¬ (2 < nPl c ∧ inF (c 2) 2 = 0) from fun z => q2 z.2)]
      rfl
  · rw [if_pos (show nI (nPl c) ≤ (2 : Int32) by rw [l2]; omega), if_neg (show ¬ (2 < nPl c ∧ inF (c 2) 2 = 0) from fun z => q z.1)]
    rfl
theorem n_upTo (h : Sc c σ) (b : Nat) : DL_upTo 1024 (nI b) σ = some (nI (nUp c b), σ) := by
  unfold DL_upTo nUp
  rw [show DL_cell 1024 (2 : Int32) σ = some (c 2, σ) from h 2 (by decide), bnd_some, show ckN (512 : Int32) = true by decide, chk_true, n_in (m := 30) (k := 30) rfl (by decide) (by decide), bnd_some, show (10 : Int32) = nI 10 from rfl, show (40 : Int32) = nI 40 from rfl, nI_add, pk_mul, nI_add]
theorem n_weight (h : Sc c σ) (b : Nat) : DL_weight 1024 (nI b) σ = some (nI (nWt c b), σ) := by
  unfold DL_weight
  rw [show DL_cell 1024 (2 : Int32) σ = some (c 2, σ) from h 2 (by decide), bnd_some, n_in (m := 200) (k := 200) rfl (by decide) (by decide), bnd_some, show (50 : Int32) + nI (inF (c 2 >>> (((16 : Int32) + ((5 : Int32) * nI b)) &&& 31)) 200) = nI (nWt c b) from nI_add _ _]
theorem n_isBase (h : Sc c σ) (k : Nat) (hk : k < 100) : DL_isBase 1024 (nI k) σ = some ((if bI c k then 1 else 0), σ) := by
  have hp := nPl_b c
  have hc := nCa_b c
  have hm : nCa c * (nPl c - 1) ≤ 16 := Nat.le_trans (Nat.mul_le_mul hc.2 (show nPl c - 1 ≤ 4 by omega)) (by decide)
  unfold DL_isBase DL_isBase_20 bI
  rw [n_carriers h, bnd_some, n_places h, bnd_some, show (1 : Int32) = nI 1 from rfl, pk_sub (by omega), pk_mul]
  by_cases q : k < nCa c * (nPl c - 1)
  · rw [if_neg (fun z => by have := (nI_leI (by omega) (by omega)).mp z; omega), if_pos (decide_eq_true q)]
    rfl
  · rw [if_pos ((nI_leI (by omega) (by omega)).mpr (by omega)), if_neg (by rw [decide_eq_false q]; decide)]
    rfl
theorem n_base0 (h : Sc c σ) (k : Nat) (hk : k < 100) : DL_base 1024 (nI k) 0 σ = some (nI (bC c k), σ) := by
  have hc := nCa_b c
  unfold DL_base DL_base_50
  rw [if_pos rfl, n_carriers h, bnd_some, ckN_n (by omega) (by omega), chk_true, i32_mod (by omega) (by omega) (by omega)]
  rfl
theorem n_base1 (h : Sc c σ) (k : Nat) (hk : k < 100) : DL_base 1024 (nI k) 1 σ = some (nI (bP c k), σ) := by
  have hc := nCa_b c
  have hp := nPl_b c
  have hd : k / nCa c ≤ k := Nat.div_le_self _ _
  unfold DL_base DL_base_50
  rw [if_neg (by decide), if_pos rfl, n_carriers h, bnd_some, ckN_n (by omega) (by omega), chk_true, n_places h, bnd_some, show nI (nPl c) - (1 : Int32) = nI (nPl c - 1) from pk_sub (b := 1) (by omega), ckN_n (by omega) (by omega), chk_true, i32_div (by omega) (by omega) (by omega), i32_mod (by omega) (by omega) (by omega)]
  rfl
theorem n_base2 (h : Sc c σ) (k : Nat) (hk : k < 50) : DL_base 1024 (nI k) 2 σ = some (nI (bV c k), σ) := by
  unfold DL_base DL_base_50
  rw [if_neg (by decide), if_neg (by decide), show (9 : Int32) + nI k = nI (9 + k) from nI_add _ _, h (9 + k) (by omega), bnd_some, n_in (m := 900) (k := 900) rfl (by decide) (by decide), bnd_some, show (1 : Int32) + nI (inF (c (9 + k)) 900) = nI (bV c k) from nI_add _ _]
theorem n_fare (h : Sc c σ) (t : Nat) (ht : t < 8) : DL_fare 1024 (nI t) σ = some (nI (nF c t), σ) := by
  unfold DL_fare
  rw [show (13 : Int32) + nI t = nI (13 + t) from nI_add _ _, h (13 + t) (by omega), bnd_some, n_in (m := 3000) (k := 3000) rfl (by decide) (by decide), bnd_some, show (1 : Int32) + nI (inF (c (13 + t)) 3000) = nI (nF c t) from nI_add _ _]
theorem n_how (h : Sc c σ) (t : Nat) (ht : t < 8) : DL_how 1024 (nI t) σ = some (nI (nH c t), σ) := by
  unfold DL_how
  rw [show (13 : Int32) + nI t = nI (13 + t) from nI_add _ _, h (13 + t) (by omega), bnd_some, show ckN (4096 : Int32) = true by decide, chk_true, n_in (m := 2) (k := 2) rfl (by decide) (by decide), bnd_some]
  rfl
theorem n_coupons (h : Sc c σ) (t : Nat) (ht : t < 8) : DL_coupons 1024 (nI t) σ = some (nI (nCo c t), σ) := by
  unfold DL_coupons
  rw [show (13 : Int32) + nI t = nI (13 + t) from nI_add _ _, h (13 + t) (by omega), bnd_some, show ckN (8192 : Int32) = true by decide, chk_true, n_in (m := 5) (k := 5) rfl (by decide) (by decide), bnd_some, show (1 : Int32) + nI (inF (c (13 + t) / 8192) 5) = nI (nCo c t) from nI_add _ _]
theorem n_carrier (h : Sc c σ) (t k : Nat) (ht : t < 8) : DL_carrier 1024 (nI t) (nI k) σ = some (nI (nCr c t k), σ) := by
  have hc := nCa_b c
  unfold DL_carrier
  rw [show (16 : Int32) + nI t = nI (16 + t) from nI_add _ _, h (16 + t) (by omega), bnd_some, n_carriers h, bnd_some, n_in (k := nCa c) rfl (by omega) (by omega), bnd_some]
  rfl
theorem n_at22 (h : Sc c σ) (t k : Nat) (ht : t < 8) (hk : k < 100) : ∀ (d i m : Nat), i + d = k → d < m → DL_at_22 m 1024 (nI t) (nI k) (nI (nAt c t i)) (nI i) σ = some (nI (nAt c t k), σ) := by
  have hp := nPl_b c
  intro d
  induction d with
  | zero =>
    intro i m hi hm
    obtain ⟨m, rfl⟩ : ∃ k, m = k + 1 := ⟨m - 1, by omega⟩
    rw [DL_at_22, if_pos ((nI_leI (by omega) (by omega)).mpr (by omega))]
    unfold DL_at_69
    rw [show i = k by omega]
  | succ d ih =>
    intro i m hi hm
    obtain ⟨m, rfl⟩ : ∃ k, m = k + 1 := ⟨m - 1, by omega⟩
    have e := ih (i + 1) m (by omega) (by omega)
    have ha := nAt_b c t i
    have hs := nSt_b c t i
    rw [DL_at_22, if_neg (fun z => by have := (nI_leI (by omega) (by omega)).mp z; omega), show (16 : Int32) + nI t = nI (16 + t) from nI_add _ _, h (16 + t) (by omega), bnd_some, n_places h, bnd_some, show nI (nPl c) - (1 : Int32) = nI (nPl c - 1) from pk_sub (b := 1) (by omega), n_in (k := nPl c - 1) rfl (by omega) (by omega), bnd_some, n_places h, bnd_some, ckN_n (by omega) (by omega), chk_true]
    rw [show inF (c (16 + t) >>> (((12 : Int32) + ((3 : Int32) * nI i)) &&& 31)) (nPl c - 1) = nSt c t i from rfl, show (nI (nAt c t i) + (1 : Int32)) + nI (nSt c t i) = nI (nAt c t i + 1 + nSt c t i) by rw [show (1 : Int32) = nI 1 from rfl, nI_add, nI_add], i32_mod (by omega) (by omega) (by omega), show nI i + (1 : Int32) = nI (i + 1) from nI_add _ _]
    exact e
theorem n_at (h : Sc c σ) (t k : Nat) (ht : t < 8) (hk : k < 100) : DL_at 1024 (nI t) (nI k) σ = some (nI (nAt c t k), σ) := by
  have hp := nPl_b c
  unfold DL_at
  rw [show (16 : Int32) + nI t = nI (16 + t) from nI_add _ _, h (16 + t) (by omega), bnd_some, n_places h, bnd_some, n_in (k := nPl c) rfl (by omega) (by omega), bnd_some]
  exact n_at22 h t k ht hk k 0 FU (by omega) (by unfold FU; omega)
theorem n_pro (h : Sc c σ) (p : Nat) (hp : p < 50) :
    DL_pro 1024 (nI p) 0 σ = some (nI (pC c p), σ) ∧ DL_pro 1024 (nI p) 1 σ = some ((if pA c p then -2 else nI (pX c p)), σ) ∧ DL_pro 1024 (nI p) 2 σ = some ((if pA c p then -2 else nI (pY c p)), σ) ∧ DL_pro 1024 (nI p) 3 σ = some (nI (pK c p), σ) ∧
    DL_pro 1024 (nI p) 4 σ = some (nI (pV c p), σ) ∧ DL_pro 1024 (nI p) 5 σ = some ((if pW c p then nI (pO c p) else -2), σ) := by
  have hc := nCa_b c
  have hl := nPl_b c
  have e3 : (3 : Int32) + nI p = nI (3 + p) := nI_add _ _
  have h0 := h (3 + p) (by omega)
  have i0 : DL_in (c (3 + p)) (nI (nCa c)) σ = some (nI (pC c p), σ) := n_in (k := nCa c) rfl (by omega) (by omega)
  have i1 : DL_in (c (3 + p) / 4) (nI (nPl c)) σ = some (nI (pX c p), σ) := n_in (k := nPl c) rfl (by omega) (by omega)
  have i2 : DL_in (c (3 + p) / 32) 2 σ = some (nI (inF (c (3 + p) / 32) 2), σ) := n_in (m := 2) (k := 2) rfl (by decide) (by decide)
  have i3 : DL_in (c (3 + p) / 64) (nI (nPl c) - 1) σ = some (nI (inF (c (3 + p) / 64) (nPl c - 1)), σ) := n_in (k := nPl c - 1) (show nI (nPl c) - nI 1 = _ from pk_sub (by omega)) (by omega) (by omega)
  have i4 : DL_in (c (3 + p) / 256) 4 σ = some (nI (inF (c (3 + p) / 256) 4), σ) := n_in (m := 4) (k := 4) rfl (by decide) (by decide)
  have i5 : DL_in (c (3 + p) / 1024) 60 σ = some (nI (inF (c (3 + p) / 1024) 60), σ) := n_in (m := 60) (k := 60) rfl (by decide) (by decide)
  have i6 : DL_in (c (3 + p) / 1024) 700 σ = some (nI (inF (c (3 + p) / 1024) 700), σ) := n_in (m := 700) (k := 700) rfl (by decide) (by decide)
  have i7 : DL_in (c (3 + p) / 1048576) 3 σ = some (nI (inF (c (3 + p) / 1048576) 3), σ) := n_in (m := 3) (k := 3) rfl (by decide) (by decide)
  have b2 := inF_lt (x := c (3 + p) / 32) (show 0 < 2 by decide)
  have b3 := inF_lt (x := c (3 + p) / 64) (m := nPl c - 1) (by omega)
  have b7 := inF_lt (x := c (3 + p) / 1048576) (show 0 < 3 by decide)
  have bX := pX_b c p
  have bC := pC_b c p
  have bK := pK_b c p
  have eK : (1 : Int32) + nI (inF (c (3 + p) / 256) 4) = nI (pK c p) := nI_add _ _
  have eA : (nI (inF (c (3 + p) / 32) 2) = 0) = (pA c p = true) := by
    unfold pA
    rw [show (0 : Int32) = nI 0 from rfl, eq_nI (by omega) (by decide), decide_eq_true_eq]
  have eY : ((nI (pX c p) + 1) + nI (inF (c (3 + p) / 64) (nPl c - 1))) - ((nI (pX c p) + 1) + nI (inF (c (3 + p) / 64) (nPl c - 1))) / nI (nPl c) * nI (nPl c) = nI (pY c p) := by
    rw [show (1 : Int32) = nI 1 from rfl, nI_add, nI_add, i32_mod (by omega) (by omega) (by omega)]
    rfl
  have eO : (nI (pC c p) + 1) - (nI (pC c p) + 1) / nI (nCa c) * nI (nCa c) = nI (pO c p) := by
    rw [show (1 : Int32) = nI 1 from rfl, nI_add, i32_mod (by omega) (by omega) (by omega)]
    rfl
  have kP := ckN_n (k := nPl c) (by omega) (by omega)
  have kC := ckN_n (k := nCa c) (by omega) (by omega)
  have l1 : (nI (nCa c) ≤ (1 : Int32)) = (nCa c ≤ 1) := le_nI (b := 1) (by omega) (by decide)
  have a3 : DL_proA 1024 (nI p) 3 σ = some (nI (pK c p), σ) := by
    unfold DL_proA
    simp only [e3, h0, bnd_some, n_carriers h, i0, show ckN (4 : Int32) = true by decide, chk_true, n_places h, i1, show ¬ (3 : Int32) = 0 by decide, show ¬ (3 : Int32) = 1 by decide, show ¬ (3 : Int32) = 2 by decide, if_false, if_true, show ckN (256 : Int32) = true by decide, i4, eK]
  refine ⟨?_, ?_, ?_, ?_, ?_, ?_⟩
  · unfold DL_pro
    simp only [e3, h0, bnd_some, n_carriers h, i0, show ckN (4 : Int32) = true by decide, chk_true, n_places h, i1, if_true]
  · unfold DL_pro DL_pro_85
    simp only [e3, h0, bnd_some, n_carriers h, i0, show ckN (4 : Int32) = true by decide, chk_true, n_places h, i1, show ¬ (1 : Int32) = 0 by decide, if_false, if_true, show ckN (32 : Int32) = true by decide, i2, eA]
    split <;> rfl
  · unfold DL_pro DL_pro_125
    simp only [e3, h0, bnd_some, n_carriers h, i0, show ckN (4 : Int32) = true by decide, chk_true, n_places h, i1, show ¬ (2 : Int32) = 0 by decide, show ¬ (2 : Int32) = 1 by decide, if_false, if_true, show ckN (32 : Int32) = true by decide, i2, eA, show ckN (64 : Int32) = true by decide, i3, kP, eY]
    split <;> rfl
  · unfold DL_pro
    simp only [e3, h0, bnd_some, n_carriers h, i0, show ckN (4 : Int32) = true by decide, chk_true, n_places h, i1, show ¬ (3 : Int32) = 0 by decide, show ¬ (3 : Int32) = 1 by decide, show ¬ (3 : Int32) = 2 by decide, if_false, if_true, show ckN (256 : Int32) = true by decide, i4, eK]
  · have eq2 : (nI (pK c p) = (2 : Int32)) = (pK c p = 2) := eq_nI (b := 2) (by omega) (by decide)
    have s1 : (1 : Int32) + nI (inF (c (3 + p) / 1024) 60) = nI (1 + inF (c (3 + p) / 1024) 60) := nI_add _ _
    have s2 : (1 : Int32) + nI (inF (c (3 + p) / 1024) 700) = nI (1 + inF (c (3 + p) / 1024) 700) := nI_add _ _
    unfold DL_pro DL_pro_176 pV
    simp only [e3, h0, bnd_some, n_carriers h, i0, show ckN (4 : Int32) = true by decide, chk_true, n_places h, i1, show ¬ (4 : Int32) = 0 by decide, show ¬ (4 : Int32) = 1 by decide, show ¬ (4 : Int32) = 2 by decide, show ¬ (4 : Int32) = 3 by decide, if_false, if_true, a3, show ckN (1024 : Int32) = true by decide, i5, i6, s1, s2, eq2]
    split <;> rfl
  · unfold DL_pro DL_pro_208 DL_pro_210 pW
    simp only [e3, h0, bnd_some, n_carriers h, i0, show ckN (4 : Int32) = true by decide, chk_true, n_places h, i1, show ¬ (5 : Int32) = 0 by decide, show ¬ (5 : Int32) = 1 by decide, show ¬ (5 : Int32) = 2 by decide, show ¬ (5 : Int32) = 3 by decide, show ¬ (5 : Int32) = 4 by decide, if_false, if_true, l1, show ckN (1048576 : Int32) = true by decide, i7, kC, eO]
    by_cases q : nCa c ≤ 1
    · rw [if_pos q, decide_eq_false (show ¬ 1 < nCa c by omega)]
      rfl
    · rw [if_neg q, decide_eq_true (show 1 < nCa c by omega)]
      by_cases q2 : inF (c (3 + p) / 1048576) 3 = 0
      · rw [if_pos (by rw [q2]; rfl), decide_eq_true q2]
        rfl
      · rw [if_neg (show ¬ nI (inF (c (3 + p) / 1048576) 3) = (0 : Int32) by rw [z_nI (by omega)]; exact q2), decide_eq_false q2]
        rfl
end

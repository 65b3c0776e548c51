/-! TEXTS BUILT: one rule a step -/
theorem G1.wk {σ τ : Sg} {k j : Nat} (h : G1 (fun _ => False) σ τ k) (hk : k ≤ j) : G1 (fun _ => False) σ τ j := h.mono (fun _ _ z => z) hk
def WT (c : Nat → Int32) (σ : Sg) : Prop := (∃ L xs, OutP L xs σ ∧ L < 2147483648 ∧ c = scel L xs) ∧ gN σ = 51
theorem WT.sc {c : Nat → Int32} {σ : Sg} (h : WT c σ) : Sc c σ := by
  obtain ⟨⟨L, xs, h1, h2, rfl⟩, -⟩ := h
  exact h1.sc h2
theorem WT.g {c : Nat → Int32} {σ τ : Sg} {X : Nat → Prop} {k : Nat} (h : WT c σ) (hg : G1 X σ τ k) (hX : ∀ a, a < 2000 → ¬ X a) : WT c τ := by
  obtain ⟨⟨L, xs, h1, h2, h3⟩, h4⟩ := h
  exact ⟨⟨L, xs, h1.g hg hX, h2, h3⟩, hg.2.1.trans h4⟩
theorem WT.f {c : Nat → Int32} {σ τ : Sg} {k : Nat} (h : WT c σ) (hg : G1 (fun _ => False) σ τ k) : WT c τ := h.g hg (fun _ _ z => z)
theorem WT.st {c : Nat → Int32} {σ : Sg} (h : WT c σ) {i : Nat} (hi : i < 21) : StI σ (1030 + i) (tx i) := by
  obtain ⟨⟨L, xs, h1, -⟩, -⟩ := h
  exact h1.st hi
theorem StI.f {σ τ : Sg} {a k : Nat} {t : List Nat} (h : StI σ a t) (hg : G1 (fun _ => False) σ τ k) : StI τ a t := h.g hg (fun z => z) (fun z => z)
def Bd (σ0 σ : Sg) (a : Nat) (t : List Nat) (k : Nat) : Prop := G1 (fun _ => False) σ0 σ k ∧ (∃ c, SbI σ a t c) ∧ 2000 + gM σ0 ≤ a ∧ 2000 + gM σ0 ≤ gR σ a 0
theorem Bd.call {σ0 σ τ : Sg} {a k j : Nat} {t : List Nat} (h : Bd σ0 σ a t k) (g : G1 (fun _ => False) σ τ j) : Bd σ0 τ a t (k + j) := by
  obtain ⟨h1, ⟨c, h2⟩, h3, h4⟩ := h
  obtain ⟨h5, h6⟩ := h2.g g (fun z => z) (fun z => z)
  exact ⟨h1.tr g (fun _ _ z => z), ⟨c, h5⟩, h3, by rw [h6]; exact h4⟩
theorem Bd.nx {σ0 σ τ : Sg} {a k c : Nat} {t u : List Nat} (h : Bd σ0 σ a t k) (g : G1 (XB σ a) σ τ 1) (hS : SbI τ a u c) (hR : gR τ a 0 = gR σ a 0 ∨ 2000 + gM σ ≤ gR τ a 0) : Bd σ0 τ a u (k + 1) := by
  obtain ⟨h1, -, h3, h4⟩ := h
  have hm := h1.2.2.2.1
  refine ⟨h1.tr g (fun x hx z => ?_), ⟨c, hS⟩, h3, ?_⟩
  · rcases z with z | z <;> omega
  · rcases hR with z | z <;> omega
section
variable {α : Type} {K : Nat → Sg → Option (α × Sg)} {Q : α → Sg → Prop} {c : Nat → Int32} {σ0 σ : Sg} {a s k v : Nat} {t u : List Nat}
theorem okS (hB : Bd σ0 σ a t k) (hs : StI σ s u) (hl : t.length + u.length ≤ 800) (h : ∀ τ, Bd σ0 τ a (t ++ u) (k + 1) → Ok (K a τ) Q) : Ok (chk (ckP σ 8 0 a) (bnd (DJ4_append_15ec4 a s σ) fun v υ => K v υ)) Q := by
  obtain ⟨h1, ⟨c, h2⟩, h3, h4⟩ := hB
  obtain ⟨τ, c', e1, e2, e3, e4⟩ := j_appS h2 hs hl
  rw [h2.p, chk_true]
  refine ok_bnd_eq e1 (h τ ?_)
  exact Bd.nx ⟨h1, ⟨c, h2⟩, h3, h4⟩ e2 e3 e4
theorem okL {i : Nat} (hW : WT c σ0) (hB : Bd σ0 σ a t k) (hi : i < 21) (hl : t.length + (tx i).length ≤ 800) (h : ∀ τ, Bd σ0 τ a (t ++ tx i) (k + 1) → Ok (K a τ) Q) : Ok (chk (ckP σ 8 0 a) (bnd (DJ4_append_15ec4 a (1030 + i) σ) fun v υ => K v υ)) Q :=
  okS hB ((hW.f hB.1).st hi) hl h
theorem okI (hW : WT c σ0) (hB : Bd σ0 σ a t k) (hv : v < 10000) (hl : t.length + 4 ≤ 800) (h : ∀ τ, Bd σ0 τ a (t ++ dgs v) (k + 1) → Ok (K a τ) Q) : Ok (chk (ckP σ 8 0 a) (bnd (DJ4_append_bf812 a (nI v) σ) fun v υ => K v υ)) Q := by
  obtain ⟨⟨L, xs, hO, -⟩, -⟩ := hW.f hB.1
  obtain ⟨h1, ⟨c, h2⟩, h3, h4⟩ := hB
  obtain ⟨τ, c', e1, e2, e3, e4⟩ := j_appI hO h2 hv hl
  rw [h2.p, chk_true]
  refine ok_bnd_eq e1 (h τ ?_)
  exact Bd.nx ⟨h1, ⟨c, h2⟩, h3, h4⟩ e2 e3 e4
theorem chr_n : ∀ p : Fin 30, (((97 : Int32) + nI p.val).toUInt32 % 65536).toInt32 = nI (97 + p.val) := by decide +kernel
theorem okC {p : Nat} (hB : Bd σ0 σ a t k) (hp : p < 30) (hl : t.length + 1 ≤ 800) (h : ∀ τ, Bd σ0 τ a (t ++ [97 + p]) (k + 1) → Ok (K a τ) Q) : Ok (chk (ckP σ 8 0 a) (bnd (DJ4_append_cf468 a ((((97 : Int32) + nI p).toUInt32 % 65536).toInt32) σ) fun v υ => K v υ)) Q := by
  obtain ⟨h1, ⟨c, h2⟩, h3, h4⟩ := hB
  have ec := chr_n ⟨p, hp⟩
  simp only at ec
  obtain ⟨τ, c', e1, e2, e3, e4⟩ := j_appC h2 (show 97 + p < 128 by omega) hl
  rw [h2.p, chk_true, ec]
  refine ok_bnd_eq e1 (h τ ?_)
  exact Bd.nx ⟨h1, ⟨c, h2⟩, h3, h4⟩ e2 e3 e4
theorem okT (hB : Bd σ0 σ a t k) (h : ∀ τ y, G1 (fun _ => False) σ0 τ (k + 2) → StI τ y t → Ok (K y τ) Q) : Ok (chk (ckP σ 8 0 a) (bnd (DJ4_toString_0e30d a σ) fun v υ => K v υ)) Q := by
  obtain ⟨h1, ⟨c, h2⟩, h3, h4⟩ := hB
  obtain ⟨τ, e1, e2, e3⟩ := j_toS h2
  rw [h2.p, chk_true]
  exact ok_bnd_eq e1 (h τ _ (h1.tr e2 (fun _ _ z => z)) e3)
theorem okN {K : Sg → Option (α × Sg)} (hN : gN σ = 51) (h : ∀ τ, Bd σ τ (2000 + gM σ) [] 2 → Ok (K τ) Q) : Ok (chk (ck51 σ) (wlet (mkD σ 1 8 4) fun υ => bnd (DJ4_init_da8c8 (2000 + gM σ) υ) fun _ ω => K ω)) Q := by
  obtain ⟨τ, e1, e2, e3, e4⟩ := j_new hN
  rw [show ck51 σ = true from decide_eq_true hN, chk_true, wlet_eq]
  exact ok_bnd_eq e1 (h τ ⟨e2, ⟨16, e3⟩, Nat.le_refl _, e4⟩)
def plT (p : Nat) : List Nat := [112, 97 + p]
def caT (p : Nat) : List Nat := [99, 97 + p]
theorem tx_1 : tx 1 = [112] := by decide +kernel
theorem tx_2 : tx 2 = [99] := by decide +kernel
theorem n_place {p : Nat} (hW : WT c σ) (hp : p < 30) : Ok (DL_place (nI p) σ) (fun y τ => G1 (fun _ => False) σ τ 6 ∧ StI τ y (plT p)) := by
  unfold DL_place DL_place_3
  refine okN hW.2 (fun τ h => ?_)
  unfold DL_place_7
  refine okL (i := 1) hW h (by decide) (by rw [tx_1]; decide) (fun τ h => ?_)
  unfold DL_place_12
  refine okC h hp (by rw [tx_1]; decide) (fun τ h => ?_)
  unfold DL_place_20 DL_place_23
  refine okT h (fun τ y g e => ok_some.mpr ⟨g, ?_⟩)
  rw [tx_1] at e
  exact e
theorem n_company {p : Nat} (hW : WT c σ) (hp : p < 30) : Ok (DL_company (nI p) σ) (fun y τ => G1 (fun _ => False) σ τ 6 ∧ StI τ y (caT p)) := by
  unfold DL_company DL_company_3
  refine okN hW.2 (fun τ h => ?_)
  unfold DL_company_7
  refine okL (i := 2) hW h (by decide) (by rw [tx_2]; decide) (fun τ h => ?_)
  unfold DL_company_12
  refine okC h hp (by rw [tx_2]; decide) (fun τ h => ?_)
  unfold DL_company_20 DL_company_23
  refine okT h (fun τ y g e => ok_some.mpr ⟨g, ?_⟩)
  rw [tx_2] at e
  exact e
theorem okP {p : Nat} (hW : WT c σ0) (hB : Bd σ0 σ a t k) (hp : p < 30) (h : ∀ τ y, Bd σ0 τ a t (k + 6) → StI τ y (plT p) → Ok (K y τ) Q) : Ok (bnd (DL_place (nI p) σ) fun v υ => K v υ) Q :=
  ok_bnd (n_place (hW.f hB.1) hp) (fun y τ hu => h τ y (hB.call hu.1) hu.2)
theorem okO {p : Nat} (hW : WT c σ0) (hB : Bd σ0 σ a t k) (hp : p < 30) (h : ∀ τ y, Bd σ0 τ a t (k + 6) → StI τ y (caT p) → Ok (K y τ) Q) : Ok (bnd (DL_company (nI p) σ) fun v υ => K v υ) Q :=
  ok_bnd (n_company (hW.f hB.1) hp) (fun y τ hu => h τ y (hB.call hu.1) hu.2)
end
theorem txl_0 : (tx 0).length = 1 := by decide +kernel
theorem txl_3 : (tx 3).length = 5 := by decide +kernel
theorem txl_4 : (tx 4).length = 1 := by decide +kernel
theorem txl_5 : (tx 5).length = 6 := by decide +kernel
theorem txl_6 : (tx 6).length = 8 := by decide +kernel
theorem txl_7 : (tx 7).length = 4 := by decide +kernel
theorem txl_8 : (tx 8).length = 5 := by decide +kernel
theorem txl_9 : (tx 9).length = 8 := by decide +kernel
theorem txl_10 : (tx 10).length = 5 := by decide +kernel
theorem txl_11 : (tx 11).length = 0 := by decide +kernel
theorem txl_12 : (tx 12).length = 6 := by decide +kernel
theorem txl_13 : (tx 13).length = 5 := by decide +kernel
theorem txl_14 : (tx 14).length = 8 := by decide +kernel
theorem txl_15 : (tx 15).length = 7 := by decide +kernel
theorem txl_16 : (tx 16).length = 6 := by decide +kernel
theorem txl_k : ∀ k : Fin 5, (tx (16 + k.val)).length ≤ 6 := by decide +kernel
theorem pll {p : Nat} : (plT p).length = 2 := rfl
theorem cal {p : Nat} : (caT p).length = 2 := rfl
/-- lines one behind the other -/
def fm (f : Nat → List Nat) : Nat → Nat → List Nat
  | _, 0 => []
  | i, d + 1 => f i ++ fm f (i + 1) d
theorem fm_len {f : Nat → List Nat} {b : Nat} (h : ∀ i, (f i).length ≤ b) : ∀ (d i : Nat), (fm f i d).length ≤ b * d
  | 0, _ => Nat.zero_le _
  | d + 1, i => by
    have h1 := h i
    have h2 := fm_len h d (i + 1)
    unfold fm
    rw [List.length_append, Nat.mul_succ]
    omega
def lnRt (c : Nat → Int32) : List Nat := tx 3 ++ dgs (nRt c) ++ tx 4
def lnPl (p : Nat) : List Nat := tx 5 ++ plT p ++ tx 4
def lnCa (p : Nat) : List Nat := tx 6 ++ caT p ++ tx 4
def lnLg (c : Nat → Int32) (p : Nat) : List Nat := tx 7 ++ plT p ++ tx 0 ++ plT (p + 1) ++ tx 0 ++ dgs (nLg c p) ++ tx 4
def lnRg (c : Nat → Int32) : List Nat := tx 7 ++ plT (nPl c - 1) ++ tx 0 ++ plT 0 ++ tx 0 ++ dgs (nRg c) ++ tx 4
def lnBd (c : Nat → Int32) (b : Nat) : List Nat := tx 8 ++ dgs (nUp c b) ++ tx 0 ++ dgs (nWt c b) ++ tx 4
def lnPrA (c : Nat → Int32) (p : Nat) : List Nat := if pA c p then tx 10 else tx 0 ++ plT (pX c p) ++ tx 0 ++ plT (pY c p) ++ tx 0
def lnPrW (c : Nat → Int32) (p : Nat) : List Nat := if pW c p then tx 12 ++ caT (pO c p) else tx 11
def lnPr (c : Nat → Int32) (p : Nat) : List Nat := tx 9 ++ caT (pC c p) ++ lnPrA c p ++ tx (16 + pK c p) ++ tx 0 ++ dgs (pV c p) ++ lnPrW c p ++ tx 4
def lnBs (c : Nat → Int32) (k : Nat) : List Nat := if bI c k then tx 13 ++ caT (bC c k) ++ tx 0 ++ plT (bP c k) ++ tx 0 ++ plT (bP c k + 1) ++ tx 0 ++ dgs (bV c k) ++ tx 4 else []
def lnCo (c : Nat → Int32) (t k : Nat) : List Nat := tx 0 ++ caT (nCr c t k) ++ tx 0 ++ plT (nAt c t (k + 1))
def lnTh (c : Nat → Int32) (t : Nat) : List Nat := tx 14 ++ [97 + t] ++ tx 0 ++ dgs (nF c t) ++ (if nH c t = 0 then tx 15 else tx 16) ++ plT (nAt c t 0)
def lnTk (c : Nat → Int32) (t : Nat) : List Nat := lnTh c t ++ fm (lnCo c t) 0 (nCo c t) ++ tx 4
def TX (c : Nat → Int32) : List Nat := lnRt c ++ fm lnPl 0 (nPl c) ++ fm lnCa 0 (nCa c) ++ fm (lnLg c) 0 (nPl c - 1) ++ (if nRg c = 0 then [] else lnRg c) ++ fm (lnBd c) 0 (nBd c) ++ fm (lnPr c) 0 (nPr c) ++ fm (lnBs c) 0 (nBs c) ++ fm (lnTk c) 0 (nTk c)

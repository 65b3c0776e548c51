/-! THE CONSTRUCTORS, AND THE FIRST STEADY STATE -/
def GX8_init (l0 : Nat) (σ : Sg) : Option (Unit × Sg) :=
  chk (ckW σ 2 1200 0) <|
  bnd (some (gN σ, mk1 σ)) fun a2 σ1 =>
  chk (ckO σ1 6 l0) <|
  chk (ckV a2) <|
  wlet (pR σ1 l0 1 a2) fun σ3 =>
  chk (ckW σ3 2 72 0) <|
  bnd (some (gN σ3, mk1 σ3)) fun a5 σ4 =>
  chk (ckO σ4 6 l0) <|
  chk (ckV a5) <|
  wlet (pR σ4 l0 12 a5) fun σ6 =>
  chk (ckW σ6 2 10 0) <|
  bnd (some (gN σ6, mk1 σ6)) fun a8 σ7 =>
  chk (ckO σ7 6 l0) <|
  chk (ckV a8) <|
  wlet (pR σ7 l0 13 a8) fun σ9 =>
  chk (ckW σ9 2 96 0) <|
  bnd (some (gN σ9, mk1 σ9)) fun a11 σ10 =>
  chk (ckO σ10 6 l0) <|
  chk (ckV a11) <|
  wlet (pR σ10 l0 14 a11) fun σ12 =>
  chk (ckW σ12 2 64 0) <|
  bnd (some (gN σ12, mk1 σ12)) fun a14 σ13 =>
  chk (ckO σ13 6 l0) <|
  chk (ckV a14) <|
  wlet (pR σ13 l0 15 a14) fun σ15 =>
  chk (ckW σ15 2 32 0) <|
  bnd (some (gN σ15, mk1 σ15)) fun a17 σ16 =>
  chk (ckO σ16 6 l0) <|
  chk (ckV a17) <|
  wlet (pR σ16 l0 16 a17) fun σ18 =>
  chk (ckW σ18 2 64 0) <|
  bnd (some (gN σ18, mk1 σ18)) fun a20 σ19 =>
  chk (ckO σ19 6 l0) <|
  chk (ckV a20) <|
  wlet (pR σ19 l0 17 a20) fun σ21 =>
  chk (ckW σ21 2 64 0) <|
  bnd (some (gN σ21, mk1 σ21)) fun a23 σ22 =>
  chk (ckO σ22 6 l0) <|
  chk (ckV a23) <|
  wlet (pR σ22 l0 18 a23) fun σ24 =>
  chk (ckW σ24 2 144 0) <|
  bnd (some (gN σ24, mk1 σ24)) fun a26 σ25 =>
  chk (ckO σ25 6 l0) <|
  chk (ckV a26) <|
  wlet (pR σ25 l0 19 a26) fun σ27 =>
  chk (ckW σ27 2 242 0) <|
  bnd (some (gN σ27, mk1 σ27)) fun a29 σ28 =>
  chk (ckO σ28 6 l0) <|
  chk (ckV a29) <|
  wlet (pR σ28 l0 20 a29) fun σ30 =>
  chk (ckW σ30 2 3388 0) <|
  bnd (some (gN σ30, mk1 σ30)) fun a32 σ31 =>
  chk (ckO σ31 6 l0) <|
  chk (ckV a32) <|
  wlet (pR σ31 l0 21 a32) fun σ33 =>
  chk (ckO σ33 6 l0) <|
  wlet (pI σ33 l0 32 (-1 : Int32)) fun σ34 =>
  chk (ckW σ34 2 12 0) <|
  bnd (some (gN σ34, mk1 σ34)) fun a36 σ35 =>
  chk (ckO σ35 6 l0) <|
  chk (ckV a36) <|
  wlet (pR σ35 l0 34 a36) fun σ37 =>
  chk (ckW σ37 2 6 0) <|
  bnd (some (gN σ37, mk1 σ37)) fun a39 σ38 =>
  chk (ckO σ38 6 l0) <|
  chk (ckV a39) <|
  wlet (pR σ38 l0 35 a39) fun σ40 =>
  chk (ckW σ40 2 8 0) <|
  bnd (some (gN σ40, mk1 σ40)) fun a42 σ41 =>
  chk (ckO σ41 6 l0) <|
  chk (ckV a42) <|
  wlet (pR σ41 l0 36 a42) fun σ43 =>
  chk (ckW σ43 2 64 0) <|
  bnd (some (gN σ43, mk1 σ43)) fun a45 σ44 =>
  chk (ckO σ44 6 l0) <|
  chk (ckV a45) <|
  wlet (pR σ44 l0 37 a45) fun σ46 =>
  chk (ckW σ46 2 500 0) <|
  bnd (some (gN σ46, mk1 σ46)) fun a48 σ47 =>
  chk (ckO σ47 6 l0) <|
  chk (ckV a48) <|
  wlet (pR σ47 l0 38 a48) fun σ49 =>
  chk (ckW σ49 2 9 0) <|
  bnd (some (gN σ49, mk1 σ49)) fun a51 σ50 =>
  chk (ckO σ50 6 l0) <|
  chk (ckV a51) <|
  wlet (pR σ50 l0 39 a51) fun σ52 =>
  chk (ckW σ52 4 8 0) <|
  bnd (some (gN σ52, mk1 σ52)) fun a54 σ53 =>
  chk (ckO σ53 6 l0) <|
  chk (ckV a54) <|
  wlet (pR σ53 l0 40 a54) fun σ55 =>
  chk (ckW σ55 4 8 0) <|
  bnd (some (gN σ55, mk1 σ55)) fun a57 σ56 =>
  chk (ckO σ56 6 l0) <|
  chk (ckV a57) <|
  wlet (pR σ56 l0 41 a57) fun σ58 =>
  chk (ckW σ58 4 8 0) <|
  bnd (some (gN σ58, mk1 σ58)) fun a60 σ59 =>
  chk (ckO σ59 6 l0) <|
  chk (ckV a60) <|
  wlet (pR σ59 l0 42 a60) fun σ61 =>
  chk (ckW σ61 4 8 0) <|
  bnd (some (gN σ61, mk1 σ61)) fun a63 σ62 =>
  chk (ckO σ62 6 l0) <|
  chk (ckV a63) <|
  wlet (pR σ62 l0 43 a63) fun σ64 =>
  chk (ckW σ64 2 8 0) <|
  bnd (some (gN σ64, mk1 σ64)) fun a66 σ65 =>
  chk (ckO σ65 6 l0) <|
  chk (ckV a66) <|
  wlet (pR σ65 l0 44 a66) fun σ67 =>
  chk (ckW σ67 2 8 0) <|
  bnd (some (gN σ67, mk1 σ67)) fun a69 σ68 =>
  chk (ckO σ68 6 l0) <|
  chk (ckV a69) <|
  wlet (pR σ68 l0 45 a69) fun σ70 =>
  chk (ckW σ70 3 8 0) <|
  bnd (some (gN σ70, mk1 σ70)) fun a72 σ71 =>
  chk (ckO σ71 6 l0) <|
  chk (ckV a72) <|
  wlet (pR σ71 l0 46 a72) fun σ73 =>
  chk (ckW σ73 2 8 0) <|
  bnd (some (gN σ73, mk1 σ73)) fun a75 σ74 =>
  chk (ckO σ74 6 l0) <|
  chk (ckV a75) <|
  wlet (pR σ74 l0 51 a75) fun σ76 =>
  chk (ckW σ76 2 8 0) <|
  bnd (some (gN σ76, mk1 σ76)) fun a78 σ77 =>
  chk (ckO σ77 6 l0) <|
  chk (ckV a78) <|
  wlet (pR σ77 l0 52 a78) fun σ79 =>
  chk (ckW σ79 2 6 0) <|
  bnd (some (gN σ79, mk1 σ79)) fun a81 σ80 =>
  chk (ckO σ80 6 l0) <|
  chk (ckV a81) <|
  wlet (pR σ80 l0 53 a81) fun σ82 =>
  chk (ckW σ82 2 6 0) <|
  bnd (some (gN σ82, mk1 σ82)) fun a84 σ83 =>
  chk (ckO σ83 6 l0) <|
  chk (ckV a84) <|
  wlet (pR σ83 l0 54 a84) fun σ85 =>
  chk (ckW σ85 2 6 0) <|
  bnd (some (gN σ85, mk1 σ85)) fun a87 σ86 =>
  chk (ckO σ86 6 l0) <|
  chk (ckV a87) <|
  wlet (pR σ86 l0 55 a87) fun σ88 =>
  chk (ckW σ88 2 6 0) <|
  bnd (some (gN σ88, mk1 σ88)) fun a90 σ89 =>
  chk (ckO σ89 6 l0) <|
  chk (ckV a90) <|
  wlet (pR σ89 l0 56 a90) fun σ91 =>
  chk (ckO σ91 6 l0) <|
  wlet (pI σ91 l0 10 (10 : Int32)) fun σ92 =>
  chk (ckO σ92 6 l0) <|
  some ((), σ92)
theorem chk_bnd {α β : Type} {b : Bool} {x : Option (α × Sg)} {k : α → Sg → Option (β × Sg)} : bnd (chk b x) k = chk b (bnd x k) := by
  cases b <;> rfl
theorem wlet_bnd {α β : Type} {x : Sg} {f : Sg → Option (α × Sg)} {k : α → Sg → Option (β × Sg)} : bnd (wlet x f) k = wlet x (fun σ => bnd (f σ) k) := rfl
theorem gx8 (l0 : Nat) (σ : Sg) : DX8_init l0 σ = bnd (GX8_init l0 σ) (fun _ τ => bnd (DX8_laysMiles l0 τ) fun _ υ => some ((), υ)) := by
  unfold DX8_init GX8_init
  simp only [chk_bnd, wlet_bnd, bnd_bnd, bnd_some]
theorem get_e {x : Option (Unit × Sg)} (h : x.isSome = true) : x = some ((), (x.get h).2) := by
  cases x with
  | none => cases h
  | some v => rfl
/-- nothing is made yet -/
def sg0 : Sg := (fun _ _ => 0, fun _ _ => 0, fun _ _ => 0, fun _ _ => 0, fun _ _ => 0, fun _ _ _ => 0, 1, true)
def sg1 : Sg := mk1 sg0
theorem e7_s : (DX7_init 1 sg1).isSome = true := by decide +kernel
def sg2 : Sg := ((DX7_init 1 sg1).get e7_s).2
theorem e7_e : DX7_init 1 sg1 = some ((), sg2) := get_e e7_s
def sg3 : Sg := mk1 sg2
theorem e8_s : (GX8_init 51 sg3).isSome = true := by decide +kernel
def sg4 : Sg := ((GX8_init 51 sg3).get e8_s).2
theorem e8_e : GX8_init 51 sg3 = some ((), sg4) := get_e e8_s
theorem sg4_ly : Ly sg4 := ⟨by decide +kernel, by decide +kernel, by decide +kernel⟩
/-- the state at the loop's first turn -/
theorem sg_end : ∃ sg5, DX8_init 51 sg3 = some ((), sg5) ∧ Fr (fF []) (fA [60]) sg4 sg5 := by
  obtain ⟨_, sg5, e, hf⟩ := ly_all sg4_ly
  refine ⟨sg5, ?_, hf⟩
  rw [gx8, e8_e, bnd_some, e, bnd_some]
def W0 : Nat → Nat := fun j => if j = 7 then 10 else 0
theorem g0_n : gN sg4 = 82 ∧ gF sg4 = true := by decide +kernel
theorem g0_r : ∀ q ∈ frL, q.1 ≠ 82 ∧ gR sg4 q.1 q.2.1 = q.2.2 := by decide +kernel
theorem g0_t : gR sg4 1 2 = 3 ∧ gR sg4 1 3 = 14 := by decide +kernel
theorem g0_x : gI sg4 3 0 = 0 ∧ gI sg4 3 1 = 0 ∧ gI sg4 3 2 = 0 ∧ gI sg4 3 3 = 0 ∧ gI sg4 3 4 = 0 ∧ gI sg4 3 5 = 0 ∧ gI sg4 3 6 = 0 ∧ gI sg4 3 7 = 10 ∧ gI sg4 3 9 = 0 := by decide +kernel
theorem g0_m : gI sg4 51 11 = 0 ∧ gI sg4 51 3 = 0 ∧ gI sg4 51 4 = 0 ∧ gI sg4 51 5 = 0 ∧ gI sg4 51 6 = 0 ∧ gI sg4 51 7 = 0 ∧ gI sg4 51 8 = 0 ∧ gI sg4 51 10 = 10 ∧ gI sg4 51 9 = 0 := by decide +kernel
theorem g0_o : gI sg4 26 10 = 0 ∧ gI sg4 51 22 = 0 ∧ gI sg4 26 9 = 0 ∧ gI sg4 1 1 = 0 ∧ gI sg4 51 2 = 0 ∧ gI sg4 25 9 = 0 ∧ gI sg4 51 31 = 0 ∧ gI sg4 25 10 = -1 ∧ gI sg4 51 32 = -1 := by decide +kernel
theorem g0_a : (∀ i, i < 242 → aI sg4 61 i = 0) ∧ (∀ c, c < 6 → aI sg4 33 c = 0) ∧ (∀ c, c < 6 → ∀ d, d < 6 → aG sg4 32 c d = 0) ∧ (∀ x, x < 12 → ∀ y, y < 12 → aG sg4 7 x y = 0) := by decide +kernel
theorem jst_first {τ υ : Sg} (hf : Fr (fF []) (fA [60]) sg4 τ) (hu : υ = mk1 τ) : Jst υ 3 W0 (fun _ => 0) (fun _ => 0) 0 0 := by
  have n4 : gN τ = 82 := hf.2.2.1.trans g0_n.1
  have eI : ∀ a k, a ≠ 82 → gI υ a k = gI sg4 a k := fun a k h => by rw [hu, (mk1_o (b := a) (by rw [n4]; exact h)).1 k]; exact hf.I a k rfl
  have eR : ∀ a k, a ≠ 82 → gR υ a k = gR sg4 a k := fun a k h => by rw [hu, (mk1_o (b := a) (by rw [n4]; exact h)).2.2.1 k]; exact hf.R a k rfl
  have eA : ∀ a k, a ≠ 82 → fA [60] a = false → aI υ a k = aI sg4 a k := fun a k h h2 => by rw [hu, (mk1_o (b := a) (by rw [n4]; exact h)).2.2.2.1 k]; exact hf.aI a h2 k
  have eG : ∀ a i j, a ≠ 82 → fA [60] a = false → aG υ a i j = aG sg4 a i j := fun a i j h h2 => by rw [hu, (mk1_o (b := a) (by rw [n4]; exact h)).2.2.2.2.2 i j]; exact hf.aG a h2 i j
  have eN : gN υ = 83 := by rw [hu]; show gN τ + 1 = 83; rw [n4]
  obtain ⟨x0, x1, x2, x3, x4, x5, x6, x7, x9⟩ := g0_x
  obtain ⟨m0, m1, m2, m3, m4, m5, m6, m7, m9⟩ := g0_m
  obtain ⟨o1, o2, o3, o4, o5, o6, o7, o8, o9⟩ := g0_o
  obtain ⟨a61, a33, a32, a7⟩ := g0_a
  have g32 : ∀ c d, c < 6 → d < 6 → aG υ 32 c d = 0 := fun c d hc hd => (eG 32 c d (by decide) (by decide)).trans (a32 c hc d hd)
  refine ⟨⟨⟨⟨⟨eN, fun q hq => ?_⟩, Or.inl rfl, ?_, ?_, ?_⟩, ⟨fun i hi => absurd hi (by show ¬ i < 0; omega), fun i hi => absurd hi (by show ¬ i < 0; omega), fun i hi => absurd hi (by show ¬ i < 0; omega)⟩, fun hw => absurd hw (by decide), fun t ht => absurd ht (by show ¬ t < 0; omega), by decide⟩, ?_, fun t ht => absurd ht (by show ¬ t < 0; omega), fun c d hc hd => ?_, fun c hc => ?_, ?_⟩, ⟨fun x y hx hy => ?_, fun i hi => absurd hi (by show ¬ i < 0; omega), fun hw => absurd hw (by decide)⟩, ⟨by omega, by omega, ?_, ?_, ?_, fun _ => led υ, fun _ _ => 0, rfl, rfl, fun i hi => absurd hi (by omega)⟩, ⟨⟨0, by omega, ?_, ?_, fun i hi => absurd hi (by omega)⟩, ?_, ?_⟩, ?_⟩
  · exact (eR _ _ (g0_r q hq).1).trans (g0_r q hq).2
  · exact ⟨(eI 3 0 (by decide)).trans x0, (eI 3 1 (by decide)).trans x1, (eI 3 2 (by decide)).trans x2, (eI 3 3 (by decide)).trans x3, (eI 3 4 (by decide)).trans x4, (eI 3 5 (by decide)).trans x5, (eI 3 6 (by decide)).trans x6, (eI 3 7 (by decide)).trans x7, (eI 3 9 (by decide)).trans x9⟩
  · exact ⟨(eI 51 11 (by decide)).trans m0, (eI 51 3 (by decide)).trans m1, (eI 51 4 (by decide)).trans m2, (eI 51 5 (by decide)).trans m3, (eI 51 6 (by decide)).trans m4, (eI 51 7 (by decide)).trans m5, (eI 51 8 (by decide)).trans m6, (eI 51 10 (by decide)).trans m7, (eI 51 9 (by decide)).trans m9⟩
  · decide
  · exact (eR 1 2 (by decide)).trans g0_t.1
  · rw [g32 c d hc hd]
    exact ⟨(eA 61 _ (by decide) (by decide)).trans (a61 _ (by omega)), by decide, fun _ => rfl⟩
  · exact ((eA 61 _ (by decide) (by decide)).trans (a61 _ (by omega))).trans ((eA 33 _ (by decide) (by decide)).trans (a33 c hc)).symm
  · unfold blT flT
    have z1 : sI (fun c => sI (fun d => (aG υ 32 c d).toInt) 0 6) 0 6 = 0 := sI_zero 6 0 (fun c _ hc => sI_zero 6 0 (fun d _ hd => by rw [g32 c d (by omega) (by omega), w_0]))
    rw [z1]
    exact Int.le_refl 0
  · refine ((eG 7 x y (by decide) (by decide)).trans (a7 x hx y hy)).trans ?_
    rw [if_pos (by rfl)]
  · exact (eI 26 10 (by decide)).trans o1
  · exact (eI 51 22 (by decide)).trans o2
  · exact (eI 26 9 (by decide)).trans o3
  · exact (eI 1 1 (by decide)).trans o4
  · exact (eI 51 2 (by decide)).trans o5
  · exact ((eI 25 9 (by decide)).trans o6).trans ((eI 51 31 (by decide)).trans o7).symm
  · exact ((eI 25 10 (by decide)).trans o8).trans ((eI 51 32 (by decide)).trans o9).symm
  · exact (eR 1 3 (by decide)).trans g0_t.2

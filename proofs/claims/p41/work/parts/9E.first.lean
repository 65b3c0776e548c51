/-! THE CONSTRUCTORS, with what stands outside; the first state -/
/-- what stands outside, over a state -/
def ov (L : Nat) (xs : Nat → Int32) (σ : Sg) : Sg := ((fun a j => if 1000 ≤ a then 0 else σ.1 a j), σ.2.1, (fun a j => if 1000 ≤ a then oRf a j else σ.2.2.1 a j), (fun a j => if 1000 ≤ a then oIf xs a j else σ.2.2.2.1 a j), σ.2.2.2.2.1, σ.2.2.2.2.2.1, σ.2.2.2.2.2.2.1, σ.2.2.2.2.2.2.2.1, σ.2.2.2.2.2.2.2.2.1, σ.2.2.2.2.2.2.2.2.2.1, fun a => if 1000 ≤ a then oSf L a else σ.2.2.2.2.2.2.2.2.2.2 a)
def om (L : Nat) (xs : Nat → Int32) (d : Option (Unit × Sg)) : Option (Unit × Sg) := match d with
  | some r => some (r.1, ov L xs r.2)
  | none => none
section
variable {L : Nat} {xs : Nat → Int32}
theorem cg_chk {b b' : Bool} {x y : Option (Unit × Sg)} (e : b = b') (h : b' = true → x = om L xs y) : chk b x = om L xs (chk b' y) := by
  subst e
  cases b with
  | true => exact h rfl
  | false => rfl
theorem cg_let {x y : Sg} {K K' : Sg → Option (Unit × Sg)} (e : x = ov L xs y) (h : ∀ z, K (ov L xs z) = om L xs (K' z)) : wlet x K = om L xs (wlet y K') := by
  subst e
  exact h y
theorem ov_gI {σ : Sg} {a k : Nat} (h : a < 1000) : gI (ov L xs σ) a k = gI σ a k := if_neg (by omega)
theorem ov_gN {σ : Sg} : gN (ov L xs σ) = gN σ ∧ gM (ov L xs σ) = gM σ ∧ gZ (ov L xs σ) = gZ σ := ⟨rfl, rfl, rfl⟩
theorem u2_ov {α : Type} {f g : Nat → Nat → α} {a k : Nat} {v : α} (h : a < 1000) : u2 (fun a j => if 1000 ≤ a then g a j else f a j) a k v = fun x j => if 1000 ≤ x then g x j else u2 f a k v x j := by
  funext x j
  unfold u2
  by_cases q : x = a ∧ j = k
  · rw [if_pos q, if_pos q, if_neg (by omega)]
  · rw [if_neg q, if_neg q]
theorem u1_ov {α : Type} {f g : Nat → Nat → α} {a : Nat} {v : Nat → α} (h : a < 1000) : u1 (fun a j => if 1000 ≤ a then g a j else f a j) a v = fun x j => if 1000 ≤ x then g x j else u1 f a v x j := by
  funext x j
  unfold u1
  by_cases q : x = a
  · rw [if_pos q, if_neg (by omega), if_pos q]
  · rw [if_neg q, if_neg q]
theorem ov_pI {σ : Sg} {a k : Nat} {v : Int32} (h : a < 1000) : pI (ov L xs σ) a k v = ov L xs (pI σ a k v) := by
  show (u2 (fun a j => if 1000 ≤ a then 0 else σ.1 a j) a k v, (ov L xs σ).2) = _
  rw [u2_ov (g := fun _ _ => 0) h]
  rfl
theorem ov_pJ {σ : Sg} {a k : Nat} {v : Int64} : pJ (ov L xs σ) a k v = ov L xs (pJ σ a k v) := rfl
theorem ov_gR {σ : Sg} {a k : Nat} (h : a < 1000) : gR (ov L xs σ) a k = gR σ a k := if_neg (by omega)
theorem ov_pR {σ : Sg} {a k v : Nat} (h : a < 1000) : pR (ov L xs σ) a k v = ov L xs (pR σ a k v) := by
  show ((ov L xs σ).1, σ.2.1, u2 (fun a j => if 1000 ≤ a then oRf a j else σ.2.2.1 a j) a k v, (ov L xs σ).2.2.2) = _
  rw [u2_ov (g := oRf) h]
  rfl
theorem ov_mk {σ : Sg} (h : gN σ < 1000) : mk1 (ov L xs σ) = ov L xs (mk1 σ) := by
  show (u1 (fun a j => if 1000 ≤ a then 0 else σ.1 a j) (gN σ) (fun _ => 0), u1 σ.2.1 (gN σ) (fun _ => 0), u1 (fun a j => if 1000 ≤ a then oRf a j else σ.2.2.1 a j) (gN σ) (fun _ => 0), u1 (fun a j => if 1000 ≤ a then oIf xs a j else σ.2.2.2.1 a j) (gN σ) (fun _ => 0), u1 σ.2.2.2.2.1 (gN σ) (fun _ => 0), u1 σ.2.2.2.2.2.1 (gN σ) (fun _ _ => 0), gN σ + 1, (ov L xs σ).2.2.2.2.2.2.2) = _
  rw [u1_ov (g := fun _ _ => 0) h, u1_ov (g := oRf) h, u1_ov (g := oIf xs) h]
  rfl
theorem ckw_lt {σ : Sg} {k n w : Nat} (h : ckW σ k n w = true) : gN σ < 1000 := by
  unfold ckW at h
  simp only [Bool.and_eq_true, decide_eq_true_eq] at h
  omega
theorem cg_mk {z : Sg} {K K' : Nat → Sg → Option (Unit × Sg)} (hN : gN z < 1000) (h : ∀ w, K (gN z) (ov L xs w) = om L xs (K' (gN z) w)) : bnd (some (gN (ov L xs z), mk1 (ov L xs z))) K = om L xs (bnd (some (gN z, mk1 z)) K') := by
  rw [ov_mk hN]
  exact h (mk1 z)
theorem cg_call {d d' : Option (Unit × Sg)} {K K' : Unit → Sg → Option (Unit × Sg)} (e : d = om L xs d') (h : ∀ w, K () (ov L xs w) = om L xs (K' () w)) : bnd d K = om L xs (bnd d' K') := by
  subst e
  cases d' with
  | none => rfl
  | some r => exact h r.2
theorem ov_X1 {l0 : Nat} {σ : Sg} (h0 : l0 < 1000) : DX1_init l0 (ov L xs σ) = om L xs (DX1_init l0 σ) := by
  unfold DX1_init
  refine cg_chk rfl (fun _ => ?_)
  refine cg_let (ov_pI h0) (fun z1 => ?_)
  refine cg_chk rfl (fun _ => ?_)
  refine cg_let (ov_pI h0) (fun z3 => ?_)
  refine cg_chk rfl (fun _ => ?_)
  refine cg_let (ov_pI h0) (fun z5 => ?_)
  refine cg_chk rfl (fun _ => ?_)
  refine cg_let (ov_pI h0) (fun z7 => ?_)
  refine cg_chk rfl (fun _ => ?_)
  refine cg_let (ov_pI h0) (fun z9 => ?_)
  refine cg_chk rfl (fun _ => ?_)
  refine cg_let (ov_pI h0) (fun z11 => ?_)
  refine cg_chk rfl (fun _ => ?_)
  refine cg_let (ov_pI h0) (fun z13 => ?_)
  refine cg_chk rfl (fun _ => ?_)
  refine cg_let (ov_pI h0) (fun z15 => ?_)
  refine cg_chk rfl (fun _ => ?_)
  refine cg_chk rfl (fun _ => ?_)
  refine cg_let (ov_pI h0) (fun z18 => ?_)
  refine cg_chk rfl (fun _ => ?_)
  refine cg_let (ov_pI h0) (fun z20 => ?_)
  refine cg_chk rfl (fun k22 => ?_)
  have ha12 := ckw_lt k22
  refine cg_mk ha12 (fun z22 => ?_)
  refine cg_chk rfl (fun _ => ?_)
  refine cg_chk rfl (fun _ => ?_)
  refine cg_let (ov_pR h0) (fun z25 => ?_)
  refine cg_chk rfl (fun k27 => ?_)
  have ha15 := ckw_lt k27
  refine cg_mk ha15 (fun z27 => ?_)
  refine cg_chk rfl (fun _ => ?_)
  refine cg_chk rfl (fun _ => ?_)
  refine cg_let (ov_pR h0) (fun z30 => ?_)
  refine cg_chk rfl (fun k32 => ?_)
  have ha18 := ckw_lt k32
  refine cg_mk ha18 (fun z32 => ?_)
  refine cg_chk rfl (fun _ => ?_)
  refine cg_chk rfl (fun _ => ?_)
  refine cg_let (ov_pR h0) (fun z35 => ?_)
  refine cg_chk rfl (fun k37 => ?_)
  have ha21 := ckw_lt k37
  refine cg_mk ha21 (fun z37 => ?_)
  refine cg_chk rfl (fun _ => ?_)
  refine cg_chk rfl (fun _ => ?_)
  refine cg_let (ov_pR h0) (fun z40 => ?_)
  refine cg_chk rfl (fun k42 => ?_)
  have ha24 := ckw_lt k42
  refine cg_mk ha24 (fun z42 => ?_)
  refine cg_chk rfl (fun _ => ?_)
  refine cg_chk rfl (fun _ => ?_)
  refine cg_let (ov_pR h0) (fun z45 => ?_)
  refine cg_chk rfl (fun k47 => ?_)
  have ha27 := ckw_lt k47
  refine cg_mk ha27 (fun z47 => ?_)
  refine cg_chk rfl (fun _ => ?_)
  refine cg_chk rfl (fun _ => ?_)
  refine cg_let (ov_pR h0) (fun z50 => ?_)
  refine cg_chk rfl (fun k52 => ?_)
  have ha30 := ckw_lt k52
  refine cg_mk ha30 (fun z52 => ?_)
  refine cg_chk rfl (fun _ => ?_)
  refine cg_chk rfl (fun _ => ?_)
  refine cg_let (ov_pR h0) (fun z55 => ?_)
  refine cg_chk rfl (fun k57 => ?_)
  have ha33 := ckw_lt k57
  refine cg_mk ha33 (fun z57 => ?_)
  refine cg_chk rfl (fun _ => ?_)
  refine cg_chk rfl (fun _ => ?_)
  refine cg_let (ov_pR h0) (fun z60 => ?_)
  refine cg_chk rfl (fun k62 => ?_)
  have ha36 := ckw_lt k62
  refine cg_mk ha36 (fun z62 => ?_)
  refine cg_chk rfl (fun _ => ?_)
  refine cg_chk rfl (fun _ => ?_)
  refine cg_let (ov_pR h0) (fun z65 => ?_)
  refine cg_chk rfl (fun k67 => ?_)
  have ha39 := ckw_lt k67
  refine cg_mk ha39 (fun z67 => ?_)
  refine cg_chk rfl (fun _ => ?_)
  refine cg_chk rfl (fun _ => ?_)
  refine cg_let (ov_pR h0) (fun z70 => ?_)
  rfl
theorem ov_X2 {l0 : Nat} {σ : Sg} (h0 : l0 < 1000) : DX2_init l0 (ov L xs σ) = om L xs (DX2_init l0 σ) := by
  unfold DX2_init
  refine cg_chk rfl (fun k1 => ?_)
  have ha2 := ckw_lt k1
  refine cg_mk ha2 (fun z1 => ?_)
  refine cg_chk rfl (fun _ => ?_)
  refine cg_chk rfl (fun _ => ?_)
  refine cg_let (ov_pR h0) (fun z4 => ?_)
  refine cg_chk rfl (fun k6 => ?_)
  have ha5 := ckw_lt k6
  refine cg_mk ha5 (fun z6 => ?_)
  refine cg_chk rfl (fun _ => ?_)
  refine cg_chk rfl (fun _ => ?_)
  refine cg_let (ov_pR h0) (fun z9 => ?_)
  refine cg_chk rfl (fun k11 => ?_)
  have ha8 := ckw_lt k11
  refine cg_mk ha8 (fun z11 => ?_)
  refine cg_chk rfl (fun _ => ?_)
  refine cg_chk rfl (fun _ => ?_)
  refine cg_let (ov_pR h0) (fun z14 => ?_)
  refine cg_chk rfl (fun k16 => ?_)
  have ha11 := ckw_lt k16
  refine cg_mk ha11 (fun z16 => ?_)
  refine cg_chk rfl (fun _ => ?_)
  refine cg_chk rfl (fun _ => ?_)
  refine cg_let (ov_pR h0) (fun z19 => ?_)
  refine cg_chk rfl (fun k21 => ?_)
  have ha14 := ckw_lt k21
  refine cg_mk ha14 (fun z21 => ?_)
  refine cg_chk rfl (fun _ => ?_)
  refine cg_chk rfl (fun _ => ?_)
  refine cg_let (ov_pR h0) (fun z24 => ?_)
  refine cg_chk rfl (fun k26 => ?_)
  have ha17 := ckw_lt k26
  refine cg_mk ha17 (fun z26 => ?_)
  refine cg_chk rfl (fun _ => ?_)
  refine cg_chk rfl (fun _ => ?_)
  refine cg_let (ov_pR h0) (fun z29 => ?_)
  refine cg_chk rfl (fun k31 => ?_)
  have ha20 := ckw_lt k31
  refine cg_mk ha20 (fun z31 => ?_)
  refine cg_chk rfl (fun _ => ?_)
  refine cg_chk rfl (fun _ => ?_)
  refine cg_let (ov_pR h0) (fun z34 => ?_)
  refine cg_chk rfl (fun k36 => ?_)
  have ha23 := ckw_lt k36
  refine cg_mk ha23 (fun z36 => ?_)
  refine cg_chk rfl (fun _ => ?_)
  refine cg_chk rfl (fun _ => ?_)
  refine cg_let (ov_pR h0) (fun z39 => ?_)
  refine cg_chk rfl (fun k41 => ?_)
  have ha26 := ckw_lt k41
  refine cg_mk ha26 (fun z41 => ?_)
  refine cg_chk rfl (fun _ => ?_)
  refine cg_chk rfl (fun _ => ?_)
  refine cg_let (ov_pR h0) (fun z44 => ?_)
  refine cg_chk rfl (fun _ => ?_)
  refine cg_let (ov_pI h0) (fun z46 => ?_)
  refine cg_chk rfl (fun _ => ?_)
  refine cg_let (ov_pI h0) (fun z48 => ?_)
  rfl
theorem ov_X3 {l0 l1 l2 : Nat} {σ : Sg} (h0 : l0 < 1000) : DX3_init l0 l1 l2 (ov L xs σ) = om L xs (DX3_init l0 l1 l2 σ) := by
  unfold DX3_init
  refine cg_chk rfl (fun _ => ?_)
  refine cg_let (ov_pI h0) (fun z1 => ?_)
  refine cg_chk rfl (fun _ => ?_)
  refine cg_let (ov_pI h0) (fun z3 => ?_)
  refine cg_chk rfl (fun _ => ?_)
  refine cg_chk rfl (fun _ => ?_)
  refine cg_let (ov_pR h0) (fun z6 => ?_)
  refine cg_chk rfl (fun _ => ?_)
  refine cg_let (ov_pI h0) (fun z8 => ?_)
  refine cg_chk rfl (fun _ => ?_)
  refine cg_let (ov_pJ) (fun z10 => ?_)
  refine cg_chk rfl (fun _ => ?_)
  refine cg_let (ov_pI h0) (fun z12 => ?_)
  refine cg_chk rfl (fun _ => ?_)
  refine cg_let (ov_pI h0) (fun z14 => ?_)
  refine cg_chk rfl (fun _ => ?_)
  refine cg_let (ov_pI h0) (fun z16 => ?_)
  refine cg_chk rfl (fun _ => ?_)
  refine cg_let (ov_pI h0) (fun z18 => ?_)
  refine cg_chk rfl (fun _ => ?_)
  refine cg_chk rfl (fun _ => ?_)
  refine cg_let (ov_pR h0) (fun z21 => ?_)
  refine cg_chk rfl (fun _ => ?_)
  refine cg_chk rfl (fun _ => ?_)
  refine cg_let (ov_pR h0) (fun z24 => ?_)
  rfl
theorem ov_X4 {l0 : Nat} {σ : Sg} (h0 : l0 < 1000) : DX4_init l0 (ov L xs σ) = om L xs (DX4_init l0 σ) := by
  unfold DX4_init
  refine cg_chk rfl (fun k1 => ?_)
  have ha2 := ckw_lt k1
  refine cg_mk ha2 (fun z1 => ?_)
  refine cg_chk rfl (fun _ => ?_)
  refine cg_chk rfl (fun _ => ?_)
  refine cg_let (ov_pR h0) (fun z4 => ?_)
  refine cg_chk rfl (fun k6 => ?_)
  have ha5 := ckw_lt k6
  refine cg_mk ha5 (fun z6 => ?_)
  refine cg_chk rfl (fun _ => ?_)
  refine cg_chk rfl (fun _ => ?_)
  refine cg_let (ov_pR h0) (fun z9 => ?_)
  refine cg_chk rfl (fun _ => ?_)
  refine cg_let (ov_pI h0) (fun z11 => ?_)
  rfl
theorem ov_X5 {l0 l1 : Nat} {σ : Sg} (h0 : l0 < 1000) : DX5_init l0 l1 (ov L xs σ) = om L xs (DX5_init l0 l1 σ) := by
  unfold DX5_init
  refine cg_chk rfl (fun _ => ?_)
  refine cg_let (ov_pI h0) (fun z1 => ?_)
  refine cg_chk rfl (fun _ => ?_)
  refine cg_let (ov_pI h0) (fun z3 => ?_)
  refine cg_chk rfl (fun _ => ?_)
  refine cg_let (ov_pI h0) (fun z5 => ?_)
  refine cg_chk rfl (fun _ => ?_)
  refine cg_let (ov_pI h0) (fun z7 => ?_)
  refine cg_chk rfl (fun _ => ?_)
  refine cg_let (ov_pI h0) (fun z9 => ?_)
  refine cg_chk rfl (fun k11 => ?_)
  have ha7 := ckw_lt k11
  refine cg_mk ha7 (fun z11 => ?_)
  refine cg_chk rfl (fun _ => ?_)
  refine cg_chk rfl (fun _ => ?_)
  refine cg_let (ov_pR h0) (fun z14 => ?_)
  refine cg_chk rfl (fun k16 => ?_)
  have ha10 := ckw_lt k16
  refine cg_mk ha10 (fun z16 => ?_)
  refine cg_chk rfl (fun _ => ?_)
  refine cg_chk rfl (fun _ => ?_)
  refine cg_let (ov_pR h0) (fun z19 => ?_)
  refine cg_chk rfl (fun k21 => ?_)
  have ha13 := ckw_lt k21
  refine cg_mk ha13 (fun z21 => ?_)
  refine cg_chk rfl (fun _ => ?_)
  refine cg_chk rfl (fun _ => ?_)
  refine cg_let (ov_pR h0) (fun z24 => ?_)
  refine cg_chk rfl (fun k26 => ?_)
  have ha16 := ckw_lt k26
  refine cg_mk ha16 (fun z26 => ?_)
  refine cg_chk rfl (fun _ => ?_)
  refine cg_chk rfl (fun _ => ?_)
  refine cg_let (ov_pR h0) (fun z29 => ?_)
  refine cg_chk rfl (fun k31 => ?_)
  have ha19 := ckw_lt k31
  refine cg_mk ha19 (fun z31 => ?_)
  refine cg_chk rfl (fun _ => ?_)
  refine cg_chk rfl (fun _ => ?_)
  refine cg_let (ov_pR h0) (fun z34 => ?_)
  refine cg_chk rfl (fun k36 => ?_)
  have ha22 := ckw_lt k36
  refine cg_mk ha22 (fun z36 => ?_)
  refine cg_chk rfl (fun _ => ?_)
  refine cg_chk rfl (fun _ => ?_)
  refine cg_let (ov_pR h0) (fun z39 => ?_)
  refine cg_chk rfl (fun k41 => ?_)
  have ha25 := ckw_lt k41
  refine cg_mk ha25 (fun z41 => ?_)
  refine cg_chk rfl (fun _ => ?_)
  refine cg_chk rfl (fun _ => ?_)
  refine cg_let (ov_pR h0) (fun z44 => ?_)
  refine cg_chk rfl (fun k46 => ?_)
  have ha28 := ckw_lt k46
  refine cg_mk ha28 (fun z46 => ?_)
  refine cg_chk rfl (fun _ => ?_)
  refine cg_chk rfl (fun _ => ?_)
  refine cg_let (ov_pR h0) (fun z49 => ?_)
  refine cg_chk rfl (fun k51 => ?_)
  have ha31 := ckw_lt k51
  refine cg_mk ha31 (fun z51 => ?_)
  refine cg_chk rfl (fun _ => ?_)
  refine cg_chk rfl (fun _ => ?_)
  refine cg_let (ov_pR h0) (fun z54 => ?_)
  refine cg_chk rfl (fun _ => ?_)
  refine cg_let (ov_pJ) (fun z56 => ?_)
  refine cg_chk rfl (fun _ => ?_)
  refine cg_let (ov_pI h0) (fun z58 => ?_)
  refine cg_chk rfl (fun _ => ?_)
  refine cg_let (ov_pI h0) (fun z60 => ?_)
  refine cg_chk rfl (fun _ => ?_)
  refine cg_chk rfl (fun _ => ?_)
  refine cg_let (ov_pR h0) (fun z63 => ?_)
  rfl
theorem ov_X7 {l0 : Nat} {σ : Sg} (h0 : l0 < 1000) : DX7_init l0 (ov L xs σ) = om L xs (DX7_init l0 σ) := by
  unfold DX7_init
  refine cg_chk rfl (fun k1 => ?_)
  have ha2 := ckw_lt k1
  refine cg_mk ha2 (fun z1 => ?_)
  refine cg_chk rfl (fun _ => ?_)
  refine cg_chk rfl (fun _ => ?_)
  refine cg_let (ov_pR h0) (fun z4 => ?_)
  refine cg_chk rfl (fun _ => ?_)
  refine cg_let (ov_pI h0) (fun z6 => ?_)
  refine cg_chk rfl (fun k8 => ?_)
  have ha6 := ckw_lt k8
  refine cg_mk ha6 (fun z8 => ?_)
  refine cg_call (ov_X1 ha6) (fun z9 => ?_)
  refine cg_chk rfl (fun _ => ?_)
  refine cg_chk rfl (fun _ => ?_)
  refine cg_let (ov_pR h0) (fun z12 => ?_)
  refine cg_chk rfl (fun k14 => ?_)
  have ha10 := ckw_lt k14
  refine cg_mk ha10 (fun z14 => ?_)
  refine cg_call (ov_X1 ha10) (fun z15 => ?_)
  refine cg_chk rfl (fun _ => ?_)
  refine cg_chk rfl (fun _ => ?_)
  refine cg_let (ov_pR h0) (fun z18 => ?_)
  refine cg_chk rfl (fun k20 => ?_)
  have ha14 := ckw_lt k20
  refine cg_mk ha14 (fun z20 => ?_)
  refine cg_chk rfl (fun _ => ?_)
  refine cg_chk (by rw [ov_gR h0]) (fun _ => ?_)
  refine cg_chk rfl (fun _ => ?_)
  refine cg_chk (by rw [ov_gR h0]) (fun _ => ?_)
  rw [ov_gR h0, ov_gR h0]
  refine cg_call (ov_X3 ha14) (fun z25 => ?_)
  refine cg_chk rfl (fun _ => ?_)
  refine cg_chk rfl (fun _ => ?_)
  refine cg_let (ov_pR h0) (fun z28 => ?_)
  refine cg_chk rfl (fun k30 => ?_)
  have ha18 := ckw_lt k30
  refine cg_mk ha18 (fun z30 => ?_)
  refine cg_call (ov_X2 ha18) (fun z31 => ?_)
  refine cg_chk rfl (fun _ => ?_)
  refine cg_chk rfl (fun _ => ?_)
  refine cg_let (ov_pR h0) (fun z34 => ?_)
  refine cg_chk rfl (fun k36 => ?_)
  have ha22 := ckw_lt k36
  refine cg_mk ha22 (fun z36 => ?_)
  refine cg_chk rfl (fun _ => ?_)
  refine cg_chk (by rw [ov_gR h0]) (fun _ => ?_)
  rw [ov_gR h0]
  refine cg_call (ov_X5 ha22) (fun z39 => ?_)
  refine cg_chk rfl (fun _ => ?_)
  refine cg_chk rfl (fun _ => ?_)
  refine cg_let (ov_pR h0) (fun z42 => ?_)
  refine cg_chk rfl (fun k44 => ?_)
  have ha26 := ckw_lt k44
  refine cg_mk ha26 (fun z44 => ?_)
  refine cg_call (ov_X4 ha26) (fun z45 => ?_)
  refine cg_chk rfl (fun _ => ?_)
  refine cg_chk rfl (fun _ => ?_)
  refine cg_let (ov_pR h0) (fun z48 => ?_)
  refine cg_chk rfl (fun k50 => ?_)
  have ha30 := ckw_lt k50
  refine cg_mk ha30 (fun z50 => ?_)
  refine cg_chk rfl (fun _ => ?_)
  refine cg_chk rfl (fun _ => ?_)
  refine cg_let (ov_pR h0) (fun z53 => ?_)
  refine cg_chk rfl (fun k55 => ?_)
  have ha33 := ckw_lt k55
  refine cg_mk ha33 (fun z55 => ?_)
  refine cg_chk rfl (fun _ => ?_)
  refine cg_chk rfl (fun _ => ?_)
  refine cg_let (ov_pR h0) (fun z58 => ?_)
  rfl
end
theorem get_e {x : Option (Unit × Sg)} (h : x.isSome = true) : x = some ((), (x.get h).2) := by
  cases x with
  | none => cases h
  | some v => rfl
/-- nothing is made yet -/
def sg0 : Sg := (fun _ _ => 0, fun _ _ => 0, fun _ _ => 0, fun _ _ => 0, fun _ _ => 0, fun _ _ _ => 0, 1, true, 0, 0, fun _ => (0, 0))
def sg1 : Sg := mk1 sg0
theorem e7_s : (DX7_init 1 sg1).isSome = true := by decide +kernel
def sg2 : Sg := ((DX7_init 1 sg1).get e7_s).2
theorem e7_e : DX7_init 1 sg1 = some ((), sg2) := get_e e7_s
theorem o7_e {L : Nat} {xs : Nat → Int32} : DX7_init 1 (mk1 (ov L xs sg0)) = some ((), ov L xs sg2) := by
  rw [ov_mk (by decide : gN sg0 < 1000), ov_X7 (by decide), show mk1 sg0 = sg1 from rfl, e7_e]
  rfl
theorem g2_n : gN sg2 = 51 ∧ gM sg2 = 0 ∧ gZ sg2 = 0 := by decide +kernel
theorem g2_r : ∀ q ∈ frL, q.1 < 1000 ∧ gR sg2 q.1 q.2.1 = q.2.2 := by decide +kernel
theorem g2_t : gI sg2 1 1 = 0 ∧ gR sg2 1 2 = 3 ∧ gR sg2 1 3 = 14 ∧ gI sg2 26 9 = 0 := by decide +kernel
theorem ov_W {L : Nat} {xs : Nat → Int32} {σ : Sg} (hL : L < 2147483648) (hN : gN σ = 51) : WT (scel L xs) (ov L xs σ) :=
  ⟨⟨L, xs, fun _ h1 _ => ⟨if_pos h1, fun _ => if_pos h1, fun _ => if_pos h1, fun _ => if_pos h1⟩, hL, rfl⟩, hN⟩
theorem ov_F {L : Nat} {xs : Nat → Int32} {σ : Sg} (hN : gN σ = 51) (h : ∀ q ∈ frL, q.1 < 1000 ∧ gR σ q.1 q.2.1 = q.2.2) : Fin0 (ov L xs σ) := ⟨hN, fun q hq => by
  obtain ⟨h1, h2⟩ := h q hq
  rw [ov_gR h1]
  exact h2⟩
/-- the law's function, from the first state -/
theorem desk_gen {c : Nat → Int32} {σ : Sg} (hW : WT c σ) (hF : Fin0 σ) (h1 : gI σ 1 1 = 0) (h2 : gR σ 1 2 = 3) (h3 : gR σ 1 3 = 14) (h9 : gI σ 26 9 = 0) (eM : gM σ = 0) (eZ : gZ σ = 0) : ∃ υ, DL_desk_8 1024 1 σ = some (1, υ) ∧ gM υ ≤ 104000 ∧ gZ υ ≤ 5200000 ∧ ∃ ω, DL_law_4 1024 1 υ = some (1, ω) ∧ gM ω ≤ gM υ + 7690 ∧ gZ ω ≤ gZ υ + 386000 := by
  obtain ⟨r, υ, e, rfl, hT, hg⟩ := l_desk hW hF h1 h2 h3
  have hW2 : WT c υ := hW.x hg (fun _ _ z => z)
  have h9 : gI υ 26 9 = 0 := (hg.1 26 9 (by decide) (by decide)).1.trans h9
  obtain ⟨r, ω, e2, rfl, m1, m2⟩ := l_law4 hW2 hT h9
  obtain ⟨_, _, _, _, a5, a6, a7, a8⟩ := hg
  exact ⟨υ, e, by omega, by omega, ω, e2, m1, m2⟩
theorem desk_all {L : Nat} {xs : Nat → Int32} (hL : L < 2147483648) : ∃ υ, DL_desk_8 1024 1 (ov L xs sg2) = some (1, υ) ∧ gM υ ≤ 104000 ∧ gZ υ ≤ 5200000 ∧ ∃ ω, DL_law_4 1024 1 υ = some (1, ω) ∧ gM ω ≤ gM υ + 7690 ∧ gZ ω ≤ gZ υ + 386000 := by
  obtain ⟨t1, t2, t3, t4⟩ := g2_t
  obtain ⟨n1, n2, n3⟩ := g2_n
  exact desk_gen (ov_W hL n1) (ov_F n1 g2_r) ((ov_gI (by decide)).trans t1) ((ov_gR (by decide)).trans t2) ((ov_gR (by decide)).trans t3) ((ov_gI (by decide)).trans t4) (ov_gN.2.1.trans n2) (ov_gN.2.2.trans n3)

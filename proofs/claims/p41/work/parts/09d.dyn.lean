section XD3
variable {E : Ev} {p : Program} {l : Launch} {e : Env} {R : Room} {s : State} {m : MethodId} {args : Array Value} {below : List Frame} {meth : Method} {c : Code} {Q : State → Prop} {own : String} {cc : ByteArray} {nL kc ks : Nat} {σ : Sg} {pc : Nat} {L : List (Option Value)} {st : List Value}
theorem x_danew (C : Cx E p s m args meth c own cc nL) {idx : Nat} {n : Int32} (hcl : Cond.classLink own idx "[I" ∈ tblG) (hn : ckn n = true) (hk : ck51 σ = true) (hR : kc + 1 ≤ R.cells ∧ ks + n.toNatClampNeg ≤ R.slots) (hd : decode cc pc = .ok (.anewarray idx, 3)) (kk : X E p l e R s m args below meth c Q nL (kc + 1) (ks + n.toNatClampNeg) (mkD σ 5 n.toNatClampNeg n.toNatClampNeg) (pc + 3) L (.ref (ad E (2000 + gM σ)) :: st)) : X E p l e R s m args below meth c Q nL kc ks σ pc L (.int n :: st) := by
  intro H locs ls hH hlo hL
  have hN := ck51_s hk
  obtain ⟨n0, n1⟩ := ckn_s hn
  obtain ⟨m1, m2, m3, m4, m5, m6⟩ := mkD_z (σ := σ) (k := 5) (n := n.toNatClampNeg) (z := n.toNatClampNeg)
  have hz := dad_new hH hN
  refine W.anewA (t := .int) C.1 C.2.1 C.2.2.2.1 (C.2.2.2.2.1 _ hcl) (kxA C.2.2.2.2.2.1.2 : (Cond.arrayOver (.array .int)).before args s = true) rfl hd rfl n0 (by omega) hR.1 hR.2 fun cA kA comp f1 f2 f3 f4 => ?_
  have hfc : s.vm.findClass "[[I" = some cA := by rw [← nm_II]; exact f1
  have hcA : cA = eA E 3 := Option.some.inj (f1.symm.trans (C.2.2.2.2.2.1.1.2 3 _ rfl).2)
  show W p l e R s m args below meth c _ locs (kc + 1) (ks + n.toNatClampNeg) Q (F0 m (pc + 3) ls (.ref H.size :: st))
  rw [hz]
  refine kk _ locs ls (hH.dmk hN (Array.size_push _) (fun q hq => by rw [Array.getElem?_push, if_neg (Nat.ne_of_lt hq)]) ?_) hlo hL
  unfold dcel
  rw [m6, ← hz, Array.getElem?_push_size]
  refine ⟨fun h => ?_, fun h => ?_, fun h => ?_, fun h => ?_, fun _ => ?_, fun h => ?_⟩
  · exact (k_no (y := 5) rfl h (by decide)).elim
  · exact (k_no (y := 5) rfl h (by decide)).elim
  · exact (k_no (y := 5) rfl h (by decide)).elim
  · exact (k_no (y := 5) rfl h (by decide)).elim
  · rw [arrV_new, hcA]
    exact congrArg some (congrArg _ (funext fun j => by rw [m3]; rfl))
  · exact (k_no (y := 5) rfl h (by decide)).elim
theorem vR_s {a i j x : Nat} : rv0 E (gR (pR σ a i x) a j) = if j = i then rv0 E x else rv0 E (gR σ a j) := by
  by_cases h : j = i
  · rw [if_pos h, h]
    exact congrArg _ u2_s
  · rw [if_neg h]
    exact congrArg _ (u2_n (Or.inr h))
theorem x_daast (C : Cx E p s m args meth c own cc nL) {a v : Nat} {i : Int32} (hk : ckB σ 5 a i = true) (hv : (decide ((gS σ v).1 = 2) && decide (2000 ≤ v) && decide (v < 2000 + gM σ)) = true) (hd : decode cc pc = .ok (.aastore, 1)) (kk : X E p l e R s m args below meth c Q nL kc ks (pR σ a i.toNatClampNeg v) (pc + 1) L st) : X E p l e R s m args below meth c Q nL kc ks σ pc L (.ref (ad E v) :: .int i :: .ref (ad E a) :: st) := by
  intro H locs ls hH hlo hL
  obtain ⟨h1, h2, h3, h5, h6⟩ := ckB_s hk
  simp only [Bool.and_eq_true, decide_eq_true_eq] at hv
  obtain ⟨⟨v1, v2⟩, v3⟩ := hv
  obtain ⟨-, kI, hkI, compI, hkindI⟩ := (C.2.2.2.2.2.1.1.2 0 _ rfl).1 (gS σ v).2 (fun j => .int (aI σ v j))
  obtain ⟨comp2, c2, k2, g1, g2, g3, g4, g5⟩ := arrayOver_specB (show (Cond.arrayOver (.array .int)).holds #[] s none s [] = true from kxA C.2.2.2.2.2.1.2)
  have hc2 : c2 = eA E 3 := Option.some.inj (g5.symm.trans (C.2.2.2.2.2.1.1.2 3 _ rfl).2)
  have hcomp : comp2 = eA E 0 := Option.some.inj (g1.symm.trans (C.2.2.2.2.2.1.1.2 0 _ rfl).2)
  subst hc2
  subst hcomp
  refine W.aast C.1 C.2.1 ((dyn_of hH h2 h3).2.2.2.2.1 h1) (fun q h => by cases h) (fun h => by cases h) g3 g4 rfl hkI ⟨fun q => h5 (Or.inl q), by rw [arrV_size]; exact h6⟩ ((dyn_of hH v2 v3).2.1 v1) (fun q h => by cases h) hkI (va_asg _ _) rfl rfl hd fun H1 e1 z oq => ?_
  refine kk H1 _ ls (hH.dput h2 h3 z oq rfl (fun _ _ _ => rfl) (fun _ _ _ => rfl) (fun b hb k => u2_n (Or.inl hb)) (fun _ _ _ => rfl) (fun _ _ _ => rfl) (fun _ _ _ => rfl) ⟨fun h => (k_no h1 h (by decide)).elim, fun h => (k_no h1 h (by decide)).elim, fun h => (k_no h1 h (by decide)).elim, fun h => (k_no h1 h (by decide)).elim, fun _ => ?_, fun h => (k_no h1 h (by decide)).elim⟩) (lo_put hlo (eF_dyn h2)) hL
  rw [e1]
  refine congrArg some (xarr_set fun j => ?_)
  rw [vR_s, rv0_s (show v ≠ 0 by omega)]
/-! bytes copied -/
def cpB (σ : Sg) (a0 sp a dp n : Nat) : Sg := (σ.1, σ.2.1, σ.2.2.1, fun x y => if x = a then va_cpy (aI σ a0) (aI σ a) sp dp n y else σ.2.2.2.1 x y, σ.2.2.2.2)
def ckY (σ : Sg) (a0 : Nat) (sp : Int32) (a : Nat) (dp n : Int32) : Bool := decide ((gS σ a0).1 = 6) && decide ((gS σ a).1 = 6) && decide (1000 ≤ a0) && decide (a0 < 2000 + gM σ) && decide (2000 ≤ a) && decide (a < 2000 + gM σ) && decide (0 ≤ sp) && decide (0 ≤ dp) && decide (0 ≤ n) && decide (sp.toNatClampNeg + n.toNatClampNeg ≤ (gS σ a0).2) && decide (dp.toNatClampNeg + n.toNatClampNeg ≤ (gS σ a).2)
theorem pf_b {x : Int32} (h : x.toInt8.toInt32 = x) : fits .byte (.int x) = true := by
  rw [← h]
  exact pk_fb x
theorem x_acopy (C : Cx E p s m args meth c own cc nL) {idx : Nat} {a0 a : Nat} {sp dp n : Int32} (hlink : Cond.methodLink own idx arraycopyName ∈ tblG) (hnat : Cond.native arraycopyName ∈ tblG) (hstat : Cond.static arraycopyName ∈ tblG) (hini : Cond.initialized "java/lang/System" ∈ tblG) (hk : ckY σ a0 sp a dp n = true)
    (hR : 1 ≤ R.frames ∧ (st.map fun v => v.category).sum + (nativeFrameWords "java/lang/System" "arraycopy" 5 + 11) ≤ R.locals) (hd : decode cc pc = .ok (.invokestatic idx, 3)) (kk : X E p l e R s m args below meth c Q nL kc ks (cpB σ a0 sp.toNatClampNeg a dp.toNatClampNeg n.toNatClampNeg) (pc + 3) L st) : X E p l e R s m args below meth c Q nL kc ks σ pc L (.int n :: .int dp :: .ref (ad E a) :: .int sp :: .ref (ad E a0) :: st) := by
  intro H locs ls hH hlo hL
  unfold ckY at hk
  simp only [Bool.and_eq_true, decide_eq_true_eq] at hk
  obtain ⟨⟨⟨⟨⟨⟨⟨⟨⟨⟨k1, k2⟩, k3⟩, k4⟩, k5⟩, k6⟩, k7⟩, k8⟩, k9⟩, k10⟩, k11⟩ := hk
  have h1 : ¬ sp < 0 := i32_nlt.mpr k7
  have h2 : ¬ dp < 0 := i32_nlt.mpr k8
  have h3 : ¬ n < 0 := i32_nlt.mpr k9
  have nn : ∀ z : Int32, ¬ z < 0 → z.toInt = (z.toNatClampNeg : Int) := by
    intro z hz
    have hz0 : (0 : Int) ≤ z.toInt := by
      have := Int32.not_lt.mp hz
      simpa using Int32.le_iff_toInt_le.mp this
    show z.toInt = ((z.toInt.toNat : Nat) : Int)
    omega
  obtain ⟨c1, cf1⟩ := (dyn_of hH k5 k6).2.2.2.2.2 k2
  have hc1 : H[ad E a]? = some (arrV (eA E 4) (gS σ a).2 (fun j => .int (aI σ a j))) := c1
  -- the source
  obtain ⟨cs, hc0, hs6, hs3, hs5, hsz, hfit, kx0⟩ : ∃ cs : Cell, H[ad E a0]? = some cs ∧ (∀ q, cs.vm ≠ .statics q) ∧ cs.vm ≠ .unknown ∧ (∀ j, j < (gS σ a0).2 → cs.slots[j]? = some (.int (aI σ a0 j))) ∧ (gS σ a0).2 ≤ cs.slots.size ∧ (∀ j, (aI σ a0 j).toInt8.toInt32 = aI σ a0 j) ∧ (∃ k0 cm, s.vm.classes[cs.cls]? = some k0 ∧ k0.kind = .array cm .byte) := by
    by_cases h : 2000 ≤ a0
    · obtain ⟨c0, cf0⟩ := (dyn_of hH h k4).2.2.2.2.2 k1
      obtain ⟨-, k0, hk0, cm0, hkk0⟩ := (C.2.2.2.2.2.1.1.2 4 _ rfl).1 (gS σ a0).2 (fun j => .int (aI σ a0 j))
      exact ⟨_, c0, fun q h => (by cases h), fun h => (by cases h), fun j hj => arrV_read _ _ hj, Nat.le_of_eq (arrV_size _ _ _).symm, cf0, k0, cm0, hk0, hkk0⟩
    · obtain ⟨o1, o2, o3, o4⟩ := hH.1.2.1 a0 k3 (by omega)
      rw [o1] at k1
      obtain ⟨⟨scr, t1, t2, t3, t4, t5, t6, t7⟩, tf⟩ := (out_of C k3 (show a0 < 2000 by omega)).2.1 k1
      obtain ⟨hs6, k0, hk0, cm0, hkk0⟩ := t2
      exact ⟨scr, low_of hH t1, hs6, t3, fun j hj => by rw [o1] at hj; rw [o2]; exact t6 j hj, by rw [o1]; exact t4, fun j => by rw [o2]; exact tf j, k0, cm0, hk0, hkk0⟩
  obtain ⟨k0, cm0, hk0, hkk0⟩ := kx0
  obtain ⟨-, kk1, hk1, cm1, hkk1⟩ := (C.2.2.2.2.2.1.1.2 4 _ rfl).1 (gS σ a).2 (fun j => .int (aI σ a j))
  intro T hT Xs
  obtain ⟨vm', X', step⟩ := Xs.arraycopy C.1 C.2.2.2.1 (C.2.2.2.2.1 _ hlink) (C.2.2.2.2.1 _ hnat) (C.2.2.2.2.1 _ hstat) (C.2.2.2.2.1 _ hini) (src := ad E a0) (dst := ad E a) (cs := cs) (cd := arrV (eA E 4) (gS σ a).2 (fun j => .int (aI σ a j))) (srcPos := sp) (destPos := dp) (n := n) (by rw [hT]; exact hc0) (by rw [hT]; exact hc1)
    hs6 (fun _ h => by cases h) hs3 (fun h => by cases h) hk0 hk1 hkk0 hkk1 (by simp [refKind]) h1 h2 h3
    (by rw [nn sp h1, nn n h3]; omega)
    (by rw [nn dp h2, nn n h3, arrV_size]; omega)
    (fun vm₁ _ i hi => by
      have e : cs.slots.getD (sp.toNatClampNeg + i) .null = .int (aI σ a0 (sp.toNatClampNeg + i)) := by
        rw [Array.getD_eq_getD_getElem?, hs5 _ (by omega)]
        rfl
      refine ⟨?_, ?_⟩
      · rw [e]
        exact pf_b (hfit _)
      · rw [e]
        exact trivial)
    (g := F0 m pc ls (.int n :: .int dp :: .ref (ad E a) :: .int sp :: .ref (ad E a0) :: st)) rfl (by rw [C.2.2.1]; exact hL.1) (rest := st) rfl (by rw [C.2.1]; exact hd) hR.1 (by show 2 * 0 + _ + _ ≤ _; omega)
  have e1 : copied cs (arrV (eA E 4) (gS σ a).2 (fun j => .int (aI σ a j))) sp dp n = arrV (eA E 4) (gS σ a).2 (fun j => .int (va_cpy (aI σ a0) (aI σ a) sp.toNatClampNeg dp.toNatClampNeg n.toNatClampNeg j)) := va_copiedX (fun z => .int z) cs (eA E 4) (aI σ a0) (aI σ a) hs5 k10
  rw [e1] at X' step
  have hl : ad E a < H.size := (Array.getElem?_eq_some_iff.mp hc1).1
  generalize hnew : arrV (eA E 4) (gS σ a).2 (fun j => .int (va_cpy (aI σ a0) (aI σ a) sp.toNatClampNeg dp.toNatClampNeg n.toNatClampNeg j)) = cnew at X' step
  have hheap : ((T.setVm vm').setCell (ad E a) cnew).heap = H.setIfInBounds (ad E a) cnew := by rw [← hT]; rfl
  have oq : ∀ q : Nat, q ≠ ad E a → (H.setIfInBounds (ad E a) cnew)[q]? = H[q]? := fun q hq => by simp [Array.getElem?_setIfInBounds, Ne.symm hq]
  have ea : ∀ j, aI (cpB σ a0 sp.toNatClampNeg a dp.toNatClampNeg n.toNatClampNeg) a j = va_cpy (aI σ a0) (aI σ a) sp.toNatClampNeg dp.toNatClampNeg n.toNatClampNeg j := fun j => if_pos rfl
  have hd2 : Hd E (cpB σ a0 sp.toNatClampNeg a dp.toNatClampNeg n.toNatClampNeg) (H.setIfInBounds (ad E a) cnew) := by
    refine hH.dput k5 k6 (by simp) oq rfl (fun _ _ _ => rfl) (fun _ _ _ => rfl) (fun _ _ _ => rfl) (fun b hb j => if_neg hb) (fun _ _ _ => rfl) (fun _ _ _ => rfl) ?_
    refine ⟨fun h => (k_no k2 h (by decide)).elim, fun h => (k_no k2 h (by decide)).elim, fun h => (k_no k2 h (by decide)).elim, fun h => (k_no k2 h (by decide)).elim, fun h => (k_no k2 h (by decide)).elim, fun _ => ⟨?_, fun j => ?_⟩⟩
    · rw [show (H.setIfInBounds (ad E a) cnew)[ad E a]? = some cnew by simp [Array.getElem?_setIfInBounds, hl], ← hnew]
      exact congrArg some (congrArg _ (funext fun j => by rw [ea]))
    · rw [ea]
      unfold va_cpy
      split
      · exact hfit _
      · exact cf1 j
  obtain ⟨t, a1, b1⟩ := kk _ _ ls hd2 (fun q hq => by
      rcases List.mem_append.mp hq with h | h
      · exact hlo q h
      · obtain ⟨z, -, hz⟩ := List.mem_map.mp h
        rw [← hz]
        exact eF_dyn k5) hL _ hheap X'
  exact ⟨t, step t a1, b1⟩
/-- clone() of bytes -/
def clD (σ : Sg) (a : Nat) : Sg := cpB (mkD σ 6 (gS σ a).2 (gS σ a).2) a 0 (2000 + gM σ) 0 (gS σ a).2
theorem arr_cg {cA : ClassId} {n : Nat} {f g : Nat → Value} (h : ∀ j, j < n → f j = g j) : arrV cA n f = arrV cA n g := by
  unfold arrV
  congr 1
  refine Array.ext (by simp) fun i hi1 hi2 => ?_
  have hi3 : i < n := by simpa using hi1
  simpa using h i hi3
def ckB6 (σ : Sg) (a : Nat) : Bool := decide ((gS σ a).1 = 6) && decide (2000 ≤ a) && decide (a < 2000 + gM σ)
theorem ckB6_s {a : Nat} (h : ckB6 σ a = true) : (gS σ a).1 = 6 ∧ 2000 ≤ a ∧ a < 2000 + gM σ := by
  unfold ckB6 at h
  simp only [Bool.and_eq_true, decide_eq_true_eq] at h
  exact ⟨h.1.1, h.1.2, h.2⟩
theorem x_dclone (C : Cx E p s m args meth c own cc nL) {idx a : Nat} (hlink : Cond.methodLink own idx ⟨"[B", "clone", "()Ljava/lang/Object;"⟩ ∈ tblG) (hsame : Cond.sameMethod "[B" "java/lang/Object" "clone" "()Ljava/lang/Object;" ∈ tblG) (hnat : Cond.native ⟨"java/lang/Object", "clone", "()Ljava/lang/Object;"⟩ ∈ tblG) (hinst : Cond.instanceMethod ⟨"java/lang/Object", "clone", "()Ljava/lang/Object;"⟩ ∈ tblG)
    (hsel : Cond.selects "[B" ⟨"[B", "clone", "()Ljava/lang/Object;"⟩ ⟨"java/lang/Object", "clone", "()Ljava/lang/Object;"⟩ ∈ tblG) (hcl : Cond.castable "[B" "java/lang/Cloneable" ∈ tblN) (hk : ckB6 σ a = true) (h51 : ck51 σ = true) (hF : 1 ≤ R.frames ∧ (st.map fun v => v.category).sum + 14 ≤ R.locals) (hR : kc + 1 ≤ R.cells ∧ ks + (gS σ a).2 ≤ R.slots) (hd : decode cc pc = .ok (.invokevirtual idx, 3))
    (kk : X E p l e R s m args below meth c Q nL (kc + 1) (ks + (gS σ a).2) (clD σ a) (pc + 3) L (.ref (ad E (2000 + gM σ)) :: st)) : X E p l e R s m args below meth c Q nL kc ks σ pc L (.ref (ad E a) :: st) := by
  intro H locs ls hH hlo hL
  have hN := ck51_s h51
  obtain ⟨k1, k2, k3⟩ := ckB6_s hk
  obtain ⟨c1, cf⟩ := (dyn_of hH k2 k3).2.2.2.2.2 k1
  have hz := dad_new hH hN
  have hnm : s.vm.findClass "[B" = some (eA E 4) := (C.2.2.2.2.2.1.1.2 4 _ rfl).2
  generalize hcell : arrV (eA E 4) (gS σ a).2 (fun j => .int (aI σ a j)) = cell at c1
  have hsz : cell.slots.size = (gS σ a).2 := by rw [← hcell]; exact arrV_size _ _ _
  have hvm0 : cell.vm = .none := by rw [← hcell]; rfl
  have hcl0 : cell.cls = eA E 4 := by rw [← hcell]; rfl
  have hcellE : ({ cls := cell.cls, slots := cell.slots } : Cell) = cell := by rw [← hcell]; rfl
  obtain ⟨c0, t0', f1, f2, f3⟩ := Cond.castable_spec (KN_of C hcl rfl)
  cases hnm.symm.trans f1
  intro T hT Xs
  have hcellT : T.heap[ad E a]? = some cell := by rw [hT]; exact c1
  obtain ⟨-, kA, hkA, comp, hkind⟩ := State.isArrayOf_alike Xs.warmed.alike ((C.2.2.2.2.2.1.1.2 4 _ rfl).1 0 (fun _ => .null))
  obtain ⟨-, kS, hkS, compS, hkindS⟩ := (C.2.2.2.2.2.1.1.2 4 _ rfl).1 0 (fun _ => .null)
  obtain ⟨vm', X', step⟩ := Xs.cloneArray C.1 C.2.2.2.1 (C.2.2.2.2.1 _ hlink) (C.2.2.2.2.1 _ hsame) (C.2.2.2.2.1 _ hnat) (C.2.2.2.2.1 _ hinst) (C.2.2.2.2.1 _ hsel) (a := ad E a) (cell := cell) hcellT (fun k h => by rw [hvm0] at h; cases h) (by rw [hvm0]; exact fun h => by cases h) (by rw [hcl0]; exact hnm) f2 (by rw [hcl0]; exact f3)
    (fun i v hv => by
      rw [hcl0]
      have hk' : T.vm.classes[eA E 4]? = some kA := hkA
      have hf : fits .byte v = true := by
        rw [← hcell] at hv
        exact va_fit (fun i _ => pf_b (cf i)) i v hv
      simpa [State.fitsSlot, State.slotType?, hk', hkind] using hf)
    (g := F0 m pc ls (.ref (ad E a) :: st)) rfl (by rw [C.2.2.1]; exact hL.1) rfl (by rw [C.2.1]; exact hd) hF.1 (by show 2 * 0 + _ + 14 ≤ _; omega) hR.1 (by rw [hsz]; exact hR.2) (hloader := by rw [hcl0]; exact Vm.clonesLoader_of_array hkS hkindS)
  rw [hcellE, hsz] at X'
  rw [hcellE] at step
  obtain ⟨m1, m2, m3, m4, m5, m6⟩ := mkD_z (σ := σ) (k := 6) (n := (gS σ a).2) (z := (gS σ a).2)
  have hd0 : Hd E (mkD σ 6 (gS σ a).2 (gS σ a).2) (H.push (arrV (eA E 4) (gS σ a).2 (fun _ => .int 0))) := by
    refine hH.dmk hN (Array.size_push _) (fun q hq => by rw [Array.getElem?_push, if_neg (Nat.ne_of_lt hq)]) ?_
    unfold dcel
    rw [m6, ← hz, Array.getElem?_push_size]
    refine ⟨fun h => (k_no (y := 6) rfl h (by decide)).elim, fun h => (k_no (y := 6) rfl h (by decide)).elim, fun h => (k_no (y := 6) rfl h (by decide)).elim, fun h => (k_no (y := 6) rfl h (by decide)).elim, fun h => (k_no (y := 6) rfl h (by decide)).elim, fun _ => ⟨congrArg some (congrArg _ (funext fun j => congrArg Value.int (m4 j).symm)), fun j => by rw [m4]; decide⟩⟩
  have ha : a ≠ 2000 + gM σ := by omega
  have ea : ∀ j, aI (clD σ a) (2000 + gM σ) j = va_cpy (aI (mkD σ 6 (gS σ a).2 (gS σ a).2) a) (aI (mkD σ 6 (gS σ a).2 (gS σ a).2) (2000 + gM σ)) 0 0 (gS σ a).2 j := fun j => if_pos rfl
  have hd2 : Hd E (clD σ a) (H.push cell) := by
    refine hd0.dput (a := 2000 + gM σ) (by omega) (by show _ < 2000 + (gM σ + 1); omega) (by simp) (fun q hq => ?_) rfl (fun _ _ _ => rfl) (fun _ _ _ => rfl) (fun _ _ _ => rfl) (fun b hb j => if_neg hb) (fun _ _ _ => rfl) (fun _ _ _ => rfl) ?_
    · rw [← hz] at hq
      rw [Array.getElem?_push, Array.getElem?_push, if_neg hq, if_neg hq]
    · have hS : gS (clD σ a) (2000 + gM σ) = (6, (gS σ a).2) := m6
      unfold dcel
      rw [hS, ← hz, Array.getElem?_push_size]
      refine ⟨fun h => (k_no (y := 6) rfl h (by decide)).elim, fun h => (k_no (y := 6) rfl h (by decide)).elim, fun h => (k_no (y := 6) rfl h (by decide)).elim, fun h => (k_no (y := 6) rfl h (by decide)).elim, fun h => (k_no (y := 6) rfl h (by decide)).elim, fun _ => ⟨?_, fun j => ?_⟩⟩
      · rw [← hcell]
        refine congrArg some (arr_cg fun j hj => ?_)
        have hj : j < (gS σ a).2 := hj
        rw [ea]
        unfold va_cpy
        rw [if_pos ⟨Nat.zero_le _, by omega⟩, (mkD_o ha).2.2.2.1, Nat.sub_zero, Nat.zero_add]
      · rw [ea]
        unfold va_cpy
        split
        · rw [(mkD_o ha).2.2.2.1]
          exact cf _
        · rw [m4]
          decide
  have hX : T.heap.size = ad E (2000 + gM σ) := by rw [hT]; exact hz
  rw [hX] at step
  have hheap : ((T.setVm vm').pushCell cell).heap = H.push cell := by rw [← hT]; rfl
  obtain ⟨t, a1, b1⟩ := kk _ _ ls hd2 hlo hL _ hheap X'
  exact ⟨t, step t a1, b1⟩
theorem x_dcast (C : Cx E p s m args meth c own cc nL) {idx a : Nat} (hlink : Cond.classLink own idx "[B" ∈ tblG) (hk : ckB6 σ a = true) (hd : decode cc pc = .ok (.checkcast idx, 3)) (kk : X E p l e R s m args below meth c Q nL kc ks σ (pc + 3) L (.ref (ad E a) :: st)) : X E p l e R s m args below meth c Q nL kc ks σ pc L (.ref (ad E a) :: st) := by
  intro H locs ls hH hlo hL
  obtain ⟨k1, k2, k3⟩ := ckB6_s hk
  obtain ⟨c1, cf⟩ := (dyn_of hH k2 k3).2.2.2.2.2 k1
  have hnm : s.vm.findClass "[B" = some (eA E 4) := (C.2.2.2.2.2.1.1.2 4 _ rfl).2
  intro T hT Xs
  obtain ⟨vm', X', st2⟩ := Xs.checkcastYes C.1 C.2.2.2.1 (C.2.2.2.2.1 _ hlink) (by rw [hT]; exact c1) rfl hnm (va_asg _ _) (g := F0 m pc ls (.ref (ad E a) :: st)) rfl rfl (by rw [C.2.1]; exact hd)
  obtain ⟨t, a1, b1⟩ := kk H locs ls hH hlo hL (T.setVm vm') hT X'
  exact ⟨t, st2 t a1, b1⟩
end XD3

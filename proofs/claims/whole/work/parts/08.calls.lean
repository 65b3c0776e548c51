section XC
variable {E : Ev} {p : Program} {l : Launch} {e : Env} {R : Room} {s : State} {m : MethodId} {args : Array Value} {below : List Frame} {meth : Method} {c : Code} {Q : State → Prop} {own : String} {cc : ByteArray} {nL kc ks : Nat} {σ : Sg} {pc : Nat} {L : List (Option Value)} {st : List Value}
/-! what is made -/
theorem u1_s {α : Type} {f : Nat → α} {a : Nat} {v : α} : u1 f a v a = v := if_pos rfl
theorem u1_n {α : Type} {f : Nat → α} {a b : Nat} {v : α} (h : b ≠ a) : u1 f a v b = f b := if_neg h
theorem mk1_o {b : Nat} (h : b ≠ gN σ) : (∀ k, gI (mk1 σ) b k = gI σ b k) ∧ (∀ k, gJ (mk1 σ) b k = gJ σ b k) ∧ (∀ k, gR (mk1 σ) b k = gR σ b k) ∧ (∀ k, aI (mk1 σ) b k = aI σ b k) ∧ (∀ k, aJ (mk1 σ) b k = aJ σ b k) ∧ (∀ i j, aG (mk1 σ) b i j = aG σ b i j) :=
  ⟨fun k => congrFun (u1_n (f := σ.1) (v := fun _ => 0) h) k, fun k => congrFun (u1_n (f := σ.2.1) (v := fun _ => 0) h) k, fun k => congrFun (u1_n (f := σ.2.2.1) (v := fun _ => 0) h) k, fun k => congrFun (u1_n (f := σ.2.2.2.1) (v := fun _ => 0) h) k, fun k => congrFun (u1_n (f := σ.2.2.2.2.1) (v := fun _ => 0) h) k, fun i j => congrFun (congrFun (u1_n (f := σ.2.2.2.2.2.1) (v := fun _ _ => 0) h) i) j⟩
theorem mk1_z : (∀ k, gI (mk1 σ) (gN σ) k = 0) ∧ (∀ k, gJ (mk1 σ) (gN σ) k = 0) ∧ (∀ k, gR (mk1 σ) (gN σ) k = 0) ∧ (∀ k, aI (mk1 σ) (gN σ) k = 0) ∧ (∀ k, aJ (mk1 σ) (gN σ) k = 0) ∧ (∀ i j, aG (mk1 σ) (gN σ) i j = 0) :=
  ⟨fun k => congrFun (u1_s (f := σ.1) (a := gN σ) (v := fun _ => 0)) k, fun k => congrFun (u1_s (f := σ.2.1) (a := gN σ) (v := fun _ => 0)) k, fun k => congrFun (u1_s (f := σ.2.2.1) (a := gN σ) (v := fun _ => 0)) k, fun k => congrFun (u1_s (f := σ.2.2.2.1) (a := gN σ) (v := fun _ => 0)) k, fun k => congrFun (u1_s (f := σ.2.2.2.2.1) (a := gN σ) (v := fun _ => 0)) k, fun i j => congrFun (congrFun (u1_s (f := σ.2.2.2.2.2.1) (a := gN σ) (v := fun _ _ => 0)) i) j⟩
theorem Hd.mk {H H1 : Heap} (hH : Hd E σ H) (hF : gF σ = true) (hl : gN σ < 83) (z : H1.size = H.size + siz (gN σ)) (o : ∀ q : Nat, q < H.size → H1[q]? = H[q]?) (hc : cel E (mk1 σ) H1 (gN σ)) : Hd E (mk1 σ) H1 := by
  obtain ⟨b1, b2, b3, b4, b5, b6⟩ := hH
  have b3 := b3 hF
  refine ⟨fun q hq => by rw [o q (by omega)]; exact b1 q hq, ?_, fun _ => ?_, ?_, ?_, fun a h0 hN => ?_⟩
  · show (eH E).size + (off (gN σ) + siz (gN σ)) ≤ _
    omega
  · show _ = (eH E).size + (off (gN σ) + siz (gN σ))
    omega
  · show 0 < gN σ + 1
    omega
  · show gN σ + 1 ≤ 83
    omega
  · have hN : a < gN σ + 1 := hN
    by_cases ha : a = gN σ
    · subst ha; exact hc
    · have hlt : a < gN σ := by omega
      refine (b6 a h0 hlt).kept (fun q hq => o q ?_) (mk1_o ha).1 (mk1_o ha).2.1 (mk1_o ha).2.2.1 (mk1_o ha).2.2.2.1 (mk1_o ha).2.2.2.2.1 (mk1_o ha).2.2.2.2.2
      have h1 := hq.2
      rw [ad_lt (by omega)] at h1
      have := off_lt hlt
      omega
theorem ad_new {H : Heap} (hH : Hd E σ H) (hF : gF σ = true) : H.size = ad E (gN σ) := by
  rw [ad_lt (by have := hH.2.2.2.2.1; omega)]
  exact hH.2.2.1 hF
def dfv (t : FieldType) : Value := if fkd t = 0 then .int 0 else if fkd t = 1 then .long 0 else .null
def ckW (σ : Sg) (k n w : Nat) : Bool := decide (shp (gN σ) = (k, n, w)) && gF σ && decide (gN σ < 83)
theorem ckW_s {k n w : Nat} (h : ckW σ k n w = true) : shp (gN σ) = (k, n, w) ∧ gF σ = true ∧ gN σ < 83 := by
  unfold ckW at h
  simp only [Bool.and_eq_true, decide_eq_true_eq] at h
  exact ⟨h.1.1, h.1.2, h.2⟩
theorem x_new (C : Cx E p s m args meth c own cc nL) {idx ci N : Nat} {Cn : String} {T : u_T} (hc : clK ci Cn T N) (hcl : Cond.classLink own idx Cn ∈ tblG) (hins : Cond.instantiable Cn N ∈ tblG) (hini : Cond.initialized Cn ∈ tblG) (hdf : ∀ k, k < N → defaultValue (fty ci k) = dfv (fty ci k)) (hk : ckW σ 1 ci 0 = true) (hR : kc + 1 ≤ R.cells ∧ ks + N ≤ R.slots) (hd : decode cc pc = .ok (.new idx, 3)) (kk : X E p l e R s m args below meth c Q nL (kc + 1) (ks + N) (mk1 σ) (pc + 3) L (.ref (ad E (gN σ)) :: st)) : X E p l e R s m args below meth c Q nL kc ks σ pc L st := by
  intro H locs ls hH hlo hL
  obtain ⟨h1, hF, h83⟩ := ckW_s hk
  have hKn := C.2.2.2.2.2.1.1.1 ci _ hc.1
  refine W.newcK C.1 C.2.1 C.2.2.2.1 (C.2.2.2.2.1 _ hcl) (C.2.2.2.2.1 _ hins) (C.2.2.2.2.1 _ hini) rfl hd hR.1 hR.2 hKn.2.1 (ad_new hH hF) fun H1 kC hkC e1 z1 o1 => ?_
  have hz := ad_new hH hF
  refine kk H1 locs ls (hH.mk hF h83 (by rw [z1, ← hz]; unfold siz; rw [h1]; rfl) (fun q hq => o1 q (by rw [← hz]; exact hq)) ⟨fun _ => ?_, fun h => ?_, fun h => ?_, fun h => ?_, fun h => ?_⟩) hlo hL
  · rw [h1]
    refine ⟨_, hc.1, (u_born (fty ci) C.2.2.2.2.1 hc.2.1 hKn hkC e1 hc.2.2.1).to (fun k hk => ?_)⟩
    rw [hdf k hk]
    unfold dfv fva
    rw [mk1_z.1, mk1_z.2.1, mk1_z.2.2.1]
    rfl
  all_goals (rw [h1] at h; cases h)
theorem siz_arr {a k n w : Nat} (h : shp a = (k, n, w)) (h0 : k ≠ 0) (h5 : k ≠ 5) : siz a = 1 := by
  unfold siz
  rw [h, if_neg h0, if_neg h5]
theorem x_newI (C : Cx E p s m args meth c own cc nL) {n : Int32} {N : Nat} (ha : Cond.arrayClass .int ∈ tblG) (hn : ¬ n < 0) (hN : n.toNatClampNeg = N) (hk : ckW σ 2 N 0 = true) (hb : N * 4 ≤ 536870912) (hR : kc + 1 ≤ R.cells ∧ ks + N ≤ R.slots) (hd : decode cc pc = .ok (.newarray .int, 2)) (kk : X E p l e R s m args below meth c Q nL (kc + 1) (ks + N) (mk1 σ) (pc + 2) L (.ref (ad E (gN σ)) :: st)) : X E p l e R s m args below meth c Q nL kc ks σ pc L (.int n :: st) := by
  intro H locs ls hH hlo hL
  obtain ⟨h1, hF, h83⟩ := ckW_s hk
  have hz := ad_new hH hF
  refine va_newaK (atype := .int) C.1 C.2.1 (C.2.2.2.2.1 _ ha) rfl hd rfl hn hN hb hR.1 hR.2 hz fun H1 cA e1 z1 o1 _ hfc => ?_
  refine kk H1 locs ls (hH.mk hF h83 (by rw [z1, ← hz, siz_arr h1 (by decide) (by decide)]) (fun q hq => o1 q (by rw [← hz]; exact hq)) ⟨fun h => ?_, fun _ => ?_, fun h => ?_, fun h => ?_, fun h => ?_⟩) hlo hL
  · rw [h1] at h; cases h
  · rw [e1, (Option.some.inj (hfc.symm.trans (C.2.2.2.2.2.1.1.2 0 _ rfl).2) : cA = eA E 0), h1]
    exact congrArg some (congrArg _ (funext fun j => congrArg Value.int (mk1_z.2.2.2.1 j).symm))
  all_goals (rw [h1] at h; cases h)
theorem x_newZ (C : Cx E p s m args meth c own cc nL) {n : Int32} {N : Nat} (ha : Cond.arrayClass .boolean ∈ tblG) (hn : ¬ n < 0) (hN : n.toNatClampNeg = N) (hk : ckW σ 3 N 0 = true) (hb : N * 1 ≤ 536870912) (hR : kc + 1 ≤ R.cells ∧ ks + N ≤ R.slots) (hd : decode cc pc = .ok (.newarray .boolean, 2)) (kk : X E p l e R s m args below meth c Q nL (kc + 1) (ks + N) (mk1 σ) (pc + 2) L (.ref (ad E (gN σ)) :: st)) : X E p l e R s m args below meth c Q nL kc ks σ pc L (.int n :: st) := by
  intro H locs ls hH hlo hL
  obtain ⟨h1, hF, h83⟩ := ckW_s hk
  have hz := ad_new hH hF
  refine va_newaK (atype := .boolean) C.1 C.2.1 (C.2.2.2.2.1 _ ha) rfl hd rfl hn hN hb hR.1 hR.2 hz fun H1 cA e1 z1 o1 _ hfc => ?_
  refine kk H1 locs ls (hH.mk hF h83 (by rw [z1, ← hz, siz_arr h1 (by decide) (by decide)]) (fun q hq => o1 q (by rw [← hz]; exact hq)) ⟨fun h => ?_, fun h => ?_, fun _ => ?_, fun h => ?_, fun h => ?_⟩) hlo hL
  · rw [h1] at h; cases h
  · rw [h1] at h; cases h
  · rw [e1, (Option.some.inj (hfc.symm.trans (C.2.2.2.2.2.1.1.2 1 _ rfl).2) : cA = eA E 1), h1]
    exact congrArg some (congrArg _ (funext fun j => congrArg Value.int (mk1_z.2.2.2.1 j).symm))
  all_goals (rw [h1] at h; cases h)
theorem x_newJ (C : Cx E p s m args meth c own cc nL) {n : Int32} {N : Nat} (ha : Cond.arrayClass .long ∈ tblG) (hn : ¬ n < 0) (hN : n.toNatClampNeg = N) (hk : ckW σ 4 N 0 = true) (hb : N * 8 ≤ 536870912) (hR : kc + 1 ≤ R.cells ∧ ks + N ≤ R.slots) (hd : decode cc pc = .ok (.newarray .long, 2)) (kk : X E p l e R s m args below meth c Q nL (kc + 1) (ks + N) (mk1 σ) (pc + 2) L (.ref (ad E (gN σ)) :: st)) : X E p l e R s m args below meth c Q nL kc ks σ pc L (.int n :: st) := by
  intro H locs ls hH hlo hL
  obtain ⟨h1, hF, h83⟩ := ckW_s hk
  have hz := ad_new hH hF
  refine va_newaK (atype := .long) C.1 C.2.1 (C.2.2.2.2.1 _ ha) rfl hd rfl hn hN hb hR.1 hR.2 hz fun H1 cA e1 z1 o1 _ hfc => ?_
  refine kk H1 locs ls (hH.mk hF h83 (by rw [z1, ← hz, siz_arr h1 (by decide) (by decide)]) (fun q hq => o1 q (by rw [← hz]; exact hq)) ⟨fun h => ?_, fun h => ?_, fun h => ?_, fun _ => ?_, fun h => ?_⟩) hlo hL
  · rw [h1] at h; cases h
  · rw [h1] at h; cases h
  · rw [h1] at h; cases h
  · rw [e1, (Option.some.inj (hfc.symm.trans (C.2.2.2.2.2.1.1.2 2 _ rfl).2) : cA = eA E 2), h1]
    exact congrArg some (congrArg _ (funext fun j => congrArg Value.long (mk1_z.2.2.2.2.1 j).symm))
  · rw [h1] at h; cases h
theorem nm_II : "[" ++ (FieldType.array FieldType.int).toString = "[[I" := by decide +kernel
theorem x_newG (C : Cx E p s m args meth c own cc nL) {idx : Nat} {n k : Int32} {N K : Nat} (hcl : Cond.classLink own idx "[[I" ∈ tblG) (hov : Cond.arrayOver (.array .int) ∈ tblG) (ha : Cond.arrayClass .int ∈ tblG) (hn : ¬ n < 0) (hk0 : ¬ k < 0) (hN : n.toNatClampNeg = N) (hK : k.toNatClampNeg = K) (hk : ckW σ 5 N K = true) (hb : N * 4 ≤ 536870912 ∧ K * 4 ≤ 536870912 ∧ K ≤ 536870912) (hR : kc + (1 + N) ≤ R.cells ∧ ks + (N + N * K) ≤ R.slots) (hd : decode cc pc = .ok (.multianewarray idx 2, 4)) (kk : X E p l e R s m args below meth c Q nL (kc + 1 + N) (ks + N + N * K) (mk1 σ) (pc + 4) L (.ref (ad E (gN σ)) :: st)) : X E p l e R s m args below meth c Q nL kc ks σ pc L (.int k :: .int n :: st) := by
  intro H locs ls hH hlo hL
  obtain ⟨h1, hF, h83⟩ := ckW_s hk
  have hz := ad_new hH hF
  subst hN
  subst hK
  intro T hT Xs
  obtain ⟨vm₁, cA, comp, -, fA, fC, -, -, X', step⟩ := Xs.multianewarray2F C.1 C.2.2.2.1 (ty := .int) (by rw [nm_II]; exact C.2.2.2.2.1 _ hcl) (C.2.2.2.2.1 _ hov) (C.2.2.2.2.1 _ ha) (g := F0 m pc ls (.int k :: .int n :: st)) rfl (by rw [C.2.1]; exact hd) rfl hn hk0 hb.1 hb.2.1 hb.2.2 rfl rfl hR.1 hR.2
  generalize hF1 : Jvm.Free.Multi.fill (T.setVm vm₁) cA comp n.toNatClampNeg k.toNatClampNeg (defaultValue .int) n.toNatClampNeg = F at X' step
  have hTh : (T.setVm vm₁).heap = H := hT
  obtain ⟨f1, f2, -, -⟩ := Jvm.Free.Multi.fill_facts (T.setVm vm₁) cA comp n.toNatClampNeg k.toNatClampNeg (defaultValue .int) n.toNatClampNeg
  rw [hF1, hTh] at f1 f2
  have hold : ∀ x : Nat, x < H.size → F.heap[x]? = H[x]? := fun x hx => by
    have := Jvm.Free.Multi.fill_old (T.setVm vm₁) cA comp n.toNatClampNeg k.toNatClampNeg (defaultValue .int) (a := x) (by rw [hTh]; exact hx) n.toNatClampNeg
    rw [hF1, hTh] at this
    exact this
  have hrow : ∀ j : Nat, j < n.toNatClampNeg → F.heap[H.size + 1 + j]? = some (arrV comp k.toNatClampNeg (fun _ => .int 0)) := fun j hj => by
    have := Jvm.Free.Multi.fill_inner (T.setVm vm₁) cA comp n.toNatClampNeg k.toNatClampNeg (defaultValue .int) n.toNatClampNeg j hj
    rw [hF1, hTh] at this
    rw [this, ← arrV_new]
    rfl
  rw [vr_outer cA n.toNatClampNeg H.size n.toNatClampNeg] at f2
  have hcA : cA = eA E 3 := Option.some.inj (fA.symm.trans (C.2.2.2.2.2.1.1.2 3 _ rfl).2)
  have hcomp : comp = eA E 0 := Option.some.inj (fC.symm.trans (C.2.2.2.2.2.1.1.2 0 _ rfl).2)
  have hX : T.heap.size = ad E (gN σ) := by rw [hT]; exact hz
  have hsz : siz (gN σ) = n.toNatClampNeg + 1 := by
    unfold siz
    rw [h1]
    rfl
  have hcel : cel E (mk1 σ) F.heap (gN σ) := by
    refine ⟨fun h => ?_, fun h => ?_, fun h => ?_, fun h => ?_, fun _ => ⟨?_, fun i hi => ?_⟩⟩
    · rw [h1] at h; cases h
    · rw [h1] at h; cases h
    · rw [h1] at h; cases h
    · rw [h1] at h; cases h
    · rw [← hz, f2, hcA, h1]
      refine congrArg some ?_
      unfold arrV
      congr 1
      refine Array.ext (by simp) fun i hi1 hi2 => ?_
      have hi3 : i < n.toNatClampNeg := by simpa using hi1
      simp [hi3, va_rf, rw1, hz]
    · rw [h1] at hi
      have hi : i < n.toNatClampNeg := hi
      unfold rw1
      rw [← hz, hrow i hi, hcomp, h1]
      exact congrArg some (congrArg _ (funext fun j => congrArg Value.int (mk1_z.2.2.2.2.2 i j).symm))
  obtain ⟨t, a1, b1⟩ := kk F.heap locs ls (hH.mk hF h83 (by rw [f1, hsz]; omega) hold hcel) hlo hL F rfl X'
  refine ⟨t, step t ?_, b1⟩
  rw [hX]
  exact a1
end XC

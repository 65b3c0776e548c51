section XC
variable {E : Ev} {p : Program} {l : Launch} {e : Env} {R : Room} {s : State} {m : MethodId} {args : Array Value} {below : List Frame} {meth : Method} {c : Code} {Q : State → Prop} {own : String} {cc : ByteArray} {nL kc ks : Nat} {σ : Sg} {pc : Nat} {L : List (Option Value)} {st : List Value}
/-! what is made -/
theorem u1_s {α : Type} {f : Nat → α} {a : Nat} {v : α} : u1 f a v a = v := if_pos rfl
theorem u1_n {α : Type} {f : Nat → α} {a b : Nat} {v : α} (h : b ≠ a) : u1 f a v b = f b := if_neg h
theorem mk1_o {b : Nat} (h : b ≠ gN σ) : (∀ k, gI (mk1 σ) b k = gI σ b k) ∧ (∀ k, gJ (mk1 σ) b k = gJ σ b k) ∧ (∀ k, gR (mk1 σ) b k = gR σ b k) ∧ (∀ k, aI (mk1 σ) b k = aI σ b k) ∧ (∀ k, aJ (mk1 σ) b k = aJ σ b k) ∧ (∀ i j, aG (mk1 σ) b i j = aG σ b i j) :=
  ⟨fun k => congrFun (u1_n (f := σ.1) (v := fun _ => 0) h) k, fun k => congrFun (u1_n (f := σ.2.1) (v := fun _ => 0) h) k, fun k => congrFun (u1_n (f := σ.2.2.1) (v := fun _ => 0) h) k, fun k => congrFun (u1_n (f := σ.2.2.2.1) (v := fun _ => 0) h) k, fun k => congrFun (u1_n (f := σ.2.2.2.2.1) (v := fun _ => 0) h) k, fun i j => congrFun (congrFun (u1_n (f := σ.2.2.2.2.2.1) (v := fun _ _ => 0) h) i) j⟩
theorem mk1_z : (∀ k, gI (mk1 σ) (gN σ) k = 0) ∧ (∀ k, gJ (mk1 σ) (gN σ) k = 0) ∧ (∀ k, gR (mk1 σ) (gN σ) k = 0) ∧ (∀ k, aI (mk1 σ) (gN σ) k = 0) ∧ (∀ k, aJ (mk1 σ) (gN σ) k = 0) ∧ (∀ i j, aG (mk1 σ) (gN σ) i j = 0) :=
  ⟨fun k => congrFun (u1_s (f := σ.1) (a := gN σ) (v := fun _ => 0)) k, fun k => congrFun (u1_s (f := σ.2.1) (a := gN σ) (v := fun _ => 0)) k, fun k => congrFun (u1_s (f := σ.2.2.1) (a := gN σ) (v := fun _ => 0)) k, fun k => congrFun (u1_s (f := σ.2.2.2.1) (a := gN σ) (v := fun _ => 0)) k, fun k => congrFun (u1_s (f := σ.2.2.2.2.1) (a := gN σ) (v := fun _ => 0)) k, fun i j => congrFun (congrFun (u1_s (f := σ.2.2.2.2.2.1) (a := gN σ) (v := fun _ _ => 0)) i) j⟩
theorem Hd.mk {H H1 : Heap} (hH : Hd E σ H) (hF : gF σ = true) (hl : gN σ < 51) (z : H1.size = H.size + siz (gN σ)) (o : ∀ q : Nat, q < H.size → H1[q]? = H[q]?) (hc : cel E (mk1 σ) H1 (gN σ)) : Hd E (mk1 σ) H1 := by
  obtain ⟨⟨b1, bo, d1, d2, d3⟩, b2, b3, b4, b5, b6⟩ := hH
  have b3 := b3 hF
  have hM : gM σ = 0 := d2 hF
  refine ⟨⟨fun q hq => by rw [o q (by omega)]; exact b1 q hq, fun b hb1 hb2 => ?_, fun hf => ?_, fun _ => hM, fun b hb1 hb2 => ?_⟩, ?_, fun _ => ?_, ?_, ?_, fun a h0 hN => ?_⟩
  · obtain ⟨o1, o2, o3, o4⟩ := bo b hb1 hb2
    have hba : b ≠ gN σ := by omega
    exact ⟨o1, fun j => by rw [(mk1_o hba).2.2.2.1]; exact o2 j, fun j => by rw [(mk1_o hba).2.2.1]; exact o3 j, fun j => by rw [(mk1_o hba).1]; exact o4 j⟩
  · have hf : gF σ = false := hf
    rw [hF] at hf
    cases hf
  · have hb2 : b < 2000 + gM σ := hb2
    omega
  · show (eH E).size + (off (gN σ) + siz (gN σ)) ≤ _
    omega
  · show _ = (eH E).size + (off (gN σ) + siz (gN σ))
    omega
  · show 0 < gN σ + 1
    omega
  · show gN σ + 1 ≤ 51
    omega
  · have hN : a < gN σ + 1 := hN
    by_cases ha : a = gN σ
    · subst ha; exact hc
    · have hlt : a < gN σ := by omega
      refine (b6 a h0 hlt).kept (fun q hq => o q ?_) (mk1_o ha).1 (mk1_o ha).2.1 (mk1_o ha).2.2.1 (mk1_o ha).2.2.2.1 (mk1_o ha).2.2.2.2.1 (mk1_o ha).2.2.2.2.2
      have h1 := hq.2
      rw [ad_lt (by omega)] at h1
      have := off_lt hlt
      omega
theorem ad_new {H : Heap} (hH : Hd E σ H) (hF : gF σ = true) : H.size = ad E (gN σ) := by
  rw [ad_lt (by have := hH.2.2.2.2.1; omega)]
  exact hH.2.2.1 hF
def dfv (t : FieldType) : Value := if fkd t = 0 then .int 0 else if fkd t = 1 then .long 0 else .null
def ckW (σ : Sg) (k n w : Nat) : Bool := decide (shp (gN σ) = (k, n, w)) && gF σ && decide (gN σ < 51)
theorem ckW_s {k n w : Nat} (h : ckW σ k n w = true) : shp (gN σ) = (k, n, w) ∧ gF σ = true ∧ gN σ < 51 := by
  unfold ckW at h
  simp only [Bool.and_eq_true, decide_eq_true_eq] at h
  exact ⟨h.1.1, h.1.2, h.2⟩
theorem x_new (C : Cx E p s m args meth c own cc nL) {idx ci N : Nat} {Cn : String} {T : u_T} (hc : clK ci Cn T N) (hcl : Cond.classLink own idx Cn ∈ tblG) (hins : Cond.instantiable Cn N ∈ tblG) (hini : Cond.initialized Cn ∈ tblG) (hdf : ∀ k, k < N → defaultValue (fty ci k) = dfv (fty ci k)) (hk : ckW σ 1 ci 0 = true) (hR : kc + 1 ≤ R.cells ∧ ks + N ≤ R.slots) (hd : decode cc pc = .ok (.new idx, 3)) (kk : X E p l e R s m args below meth c Q nL (kc + 1) (ks + N) (mk1 σ) (pc + 3) L (.ref (ad E (gN σ)) :: st)) : X E p l e R s m args below meth c Q nL kc ks σ pc L st := by
  intro H locs ls hH hlo hL
  obtain ⟨h1, hF, h51⟩ := ckW_s hk
  have hKn := C.2.2.2.2.2.1.1.1 ci _ hc.1
  refine W.newcK C.1 C.2.1 C.2.2.2.1 (C.2.2.2.2.1 _ hcl) (C.2.2.2.2.1 _ hins) (C.2.2.2.2.1 _ hini) rfl hd hR.1 hR.2 hKn.2.1 (ad_new hH hF) fun H1 kC hkC e1 z1 o1 => ?_
  have hz := ad_new hH hF
  refine kk H1 locs ls (hH.mk hF h51 (by rw [z1, ← hz]; unfold siz; rw [h1]; rfl) (fun q hq => o1 q (by rw [← hz]; exact hq)) ⟨fun _ => ?_, fun h => ?_, fun h => ?_, fun h => ?_, fun h => ?_⟩) hlo hL
  · rw [h1]
    refine ⟨_, hc.1, (u_born (fty ci) C.2.2.2.2.1 hc.2.1 hKn hkC e1 hc.2.2.1).to (fun k hk => ?_)⟩
    rw [hdf k hk]
    unfold dfv fva
    rw [mk1_z.1, mk1_z.2.1, mk1_z.2.2.1]
    rfl
  all_goals (rw [h1] at h; cases h)
theorem siz_arr {a k n w : Nat} (h : shp a = (k, n, w)) (h0 : k ≠ 0) (h5 : k ≠ 5) : siz a = 1 := by
  unfold siz
  rw [h, if_neg h0, if_neg h5]
theorem x_newI (C : Cx E p s m args meth c own cc nL) {n : Int32} {N : Nat} (ha : Cond.arrayClass .int ∈ tblG) (hn : ¬ n < 0) (hN : n.toNatClampNeg = N) (hk : ckW σ 2 N 0 = true) (hb : N * 4 ≤ 536870912) (hR : kc + 1 ≤ R.cells ∧ ks + N ≤ R.slots) (hd : decode cc pc = .ok (.newarray .int, 2)) (kk : X E p l e R s m args below meth c Q nL (kc + 1) (ks + N) (mk1 σ) (pc + 2) L (.ref (ad E (gN σ)) :: st)) : X E p l e R s m args below meth c Q nL kc ks σ pc L (.int n :: st) := by
  intro H locs ls hH hlo hL
  obtain ⟨h1, hF, h51⟩ := ckW_s hk
  have hz := ad_new hH hF
  refine va_newaK (atype := .int) C.1 C.2.1 (C.2.2.2.2.1 _ ha) rfl hd rfl hn hN hb hR.1 hR.2 hz fun H1 cA e1 z1 o1 _ hfc => ?_
  refine kk H1 locs ls (hH.mk hF h51 (by rw [z1, ← hz, siz_arr h1 (by decide) (by decide)]) (fun q hq => o1 q (by rw [← hz]; exact hq)) ⟨fun h => ?_, fun _ => ?_, fun h => ?_, fun h => ?_, fun h => ?_⟩) hlo hL
  · rw [h1] at h; cases h
  · rw [e1, (Option.some.inj (hfc.symm.trans (C.2.2.2.2.2.1.1.2 0 _ rfl).2) : cA = eA E 0), h1]
    exact congrArg some (congrArg _ (funext fun j => congrArg Value.int (mk1_z.2.2.2.1 j).symm))
  all_goals (rw [h1] at h; cases h)
theorem x_newZ (C : Cx E p s m args meth c own cc nL) {n : Int32} {N : Nat} (ha : Cond.arrayClass .boolean ∈ tblG) (hn : ¬ n < 0) (hN : n.toNatClampNeg = N) (hk : ckW σ 3 N 0 = true) (hb : N * 1 ≤ 536870912) (hR : kc + 1 ≤ R.cells ∧ ks + N ≤ R.slots) (hd : decode cc pc = .ok (.newarray .boolean, 2)) (kk : X E p l e R s m args below meth c Q nL (kc + 1) (ks + N) (mk1 σ) (pc + 2) L (.ref (ad E (gN σ)) :: st)) : X E p l e R s m args below meth c Q nL kc ks σ pc L (.int n :: st) := by
  intro H locs ls hH hlo hL
  obtain ⟨h1, hF, h51⟩ := ckW_s hk
  have hz := ad_new hH hF
  refine va_newaK (atype := .boolean) C.1 C.2.1 (C.2.2.2.2.1 _ ha) rfl hd rfl hn hN hb hR.1 hR.2 hz fun H1 cA e1 z1 o1 _ hfc => ?_
  refine kk H1 locs ls (hH.mk hF h51 (by rw [z1, ← hz, siz_arr h1 (by decide) (by decide)]) (fun q hq => o1 q (by rw [← hz]; exact hq)) ⟨fun h => ?_, fun h => ?_, fun _ => ?_, fun h => ?_, fun h => ?_⟩) hlo hL
  · rw [h1] at h; cases h
  · rw [h1] at h; cases h
  · rw [e1, (Option.some.inj (hfc.symm.trans (C.2.2.2.2.2.1.1.2 1 _ rfl).2) : cA = eA E 1), h1]
    exact congrArg some (congrArg _ (funext fun j => congrArg Value.int (mk1_z.2.2.2.1 j).symm))
  all_goals (rw [h1] at h; cases h)
theorem x_newJ (C : Cx E p s m args meth c own cc nL) {n : Int32} {N : Nat} (ha : Cond.arrayClass .long ∈ tblG) (hn : ¬ n < 0) (hN : n.toNatClampNeg = N) (hk : ckW σ 4 N 0 = true) (hb : N * 8 ≤ 536870912) (hR : kc + 1 ≤ R.cells ∧ ks + N ≤ R.slots) (hd : decode cc pc = .ok (.newarray .long, 2)) (kk : X E p l e R s m args below meth c Q nL (kc + 1) (ks + N) (mk1 σ) (pc + 2) L (.ref (ad E (gN σ)) :: st)) : X E p l e R s m args below meth c Q nL kc ks σ pc L (.int n :: st) := by
  intro H locs ls hH hlo hL
  obtain ⟨h1, hF, h51⟩ := ckW_s hk
  have hz := ad_new hH hF
  refine va_newaK (atype := .long) C.1 C.2.1 (C.2.2.2.2.1 _ ha) rfl hd rfl hn hN hb hR.1 hR.2 hz fun H1 cA e1 z1 o1 _ hfc => ?_
  refine kk H1 locs ls (hH.mk hF h51 (by rw [z1, ← hz, siz_arr h1 (by decide) (by decide)]) (fun q hq => o1 q (by rw [← hz]; exact hq)) ⟨fun h => ?_, fun h => ?_, fun h => ?_, fun _ => ?_, fun h => ?_⟩) hlo hL
  · rw [h1] at h; cases h
  · rw [h1] at h; cases h
  · rw [h1] at h; cases h
  · rw [e1, (Option.some.inj (hfc.symm.trans (C.2.2.2.2.2.1.1.2 2 _ rfl).2) : cA = eA E 2), h1]
    exact congrArg some (congrArg _ (funext fun j => congrArg Value.long (mk1_z.2.2.2.2.1 j).symm))
  · rw [h1] at h; cases h
theorem vr_outer (c : ClassId) (N h0 : Nat) : ∀ i : Nat, Jvm.Free.Multi.outerC c N h0 i = arrV c N (fun j => va_rf (if j < i then some (h0 + 1 + j) else none))
  | 0 => by
    show ({ cls := c, slots := Array.replicate N .null, vm := .none } : Cell) = _
    rw [arrV_new]
    refine congrArg (arrV c N) (funext fun j => ?_)
    simp [va_rf]
  | i + 1 => by
    show (Jvm.Free.Multi.outerC c N h0 i).setSlot i (.ref (h0 + 1 + i)) = _
    rw [vr_outer c N h0 i, arrV_store]
    refine congrArg (arrV c N) (funext fun j => ?_)
    by_cases e : j = i
    · subst e
      simp [updV, va_rf]
    · by_cases h : j < i
      · simp [updV, e, h, Nat.lt_succ_of_lt h]
      · simp [updV, e, h, show ¬ j < i + 1 by omega]
theorem nm_II : "[" ++ (FieldType.array FieldType.int).toString = "[[I" := by decide +kernel
theorem x_newG (C : Cx E p s m args meth c own cc nL) {idx : Nat} {n k : Int32} {N K : Nat} (hcl : Cond.classLink own idx "[[I" ∈ tblG) (ha : Cond.arrayClass .int ∈ tblG) (hn : ¬ n < 0) (hk0 : ¬ k < 0) (hN : n.toNatClampNeg = N) (hK : k.toNatClampNeg = K) (hk : ckW σ 5 N K = true) (hb : N * 4 ≤ 536870912 ∧ K * 4 ≤ 536870912 ∧ K ≤ 536870912) (hR : kc + (1 + N) ≤ R.cells ∧ ks + (N + N * K) ≤ R.slots) (hd : decode cc pc = .ok (.multianewarray idx 2, 4)) (kk : X E p l e R s m args below meth c Q nL (kc + 1 + N) (ks + N + N * K) (mk1 σ) (pc + 4) L (.ref (ad E (gN σ)) :: st)) : X E p l e R s m args below meth c Q nL kc ks σ pc L (.int k :: .int n :: st) := by
  intro H locs ls hH hlo hL
  obtain ⟨h1, hF, h51⟩ := ckW_s hk
  have hz := ad_new hH hF
  subst hN
  subst hK
  intro T hT Xs
  obtain ⟨vm₁, cA, comp, -, fA, fC, -, -, X', step⟩ := Xs.multianewarray2F C.1 C.2.2.2.1 (ty := .int) (by rw [nm_II]; exact C.2.2.2.2.1 _ hcl) (kxA C.2.2.2.2.2.1.2 : (Cond.arrayOver (.array .int)).before args s = true) (C.2.2.2.2.1 _ ha) (g := F0 m pc ls (.int k :: .int n :: st)) rfl (by rw [C.2.1]; exact hd) rfl hn hk0 hb.1 hb.2.1 hb.2.2 rfl rfl hR.1 hR.2
  generalize hF1 : Jvm.Free.Multi.fill (T.setVm vm₁) cA comp n.toNatClampNeg k.toNatClampNeg (defaultValue .int) n.toNatClampNeg = F at X' step
  have hTh : (T.setVm vm₁).heap = H := hT
  obtain ⟨f1, f2, -, -⟩ := Jvm.Free.Multi.fill_facts (T.setVm vm₁) cA comp n.toNatClampNeg k.toNatClampNeg (defaultValue .int) n.toNatClampNeg
  rw [hF1, hTh] at f1 f2
  have hold : ∀ x : Nat, x < H.size → F.heap[x]? = H[x]? := fun x hx => by
    have := Jvm.Free.Multi.fill_old (T.setVm vm₁) cA comp n.toNatClampNeg k.toNatClampNeg (defaultValue .int) (a := x) (by rw [hTh]; exact hx) n.toNatClampNeg
    rw [hF1, hTh] at this
    exact this
  have hrow : ∀ j : Nat, j < n.toNatClampNeg → F.heap[H.size + 1 + j]? = some (arrV comp k.toNatClampNeg (fun _ => .int 0)) := fun j hj => by
    have := Jvm.Free.Multi.fill_inner (T.setVm vm₁) cA comp n.toNatClampNeg k.toNatClampNeg (defaultValue .int) n.toNatClampNeg j hj
    rw [hF1, hTh] at this
    rw [this, ← arrV_new]
    rfl
  rw [vr_outer cA n.toNatClampNeg H.size n.toNatClampNeg] at f2
  have hcA : cA = eA E 3 := Option.some.inj (fA.symm.trans (C.2.2.2.2.2.1.1.2 3 _ rfl).2)
  have hcomp : comp = eA E 0 := Option.some.inj (fC.symm.trans (C.2.2.2.2.2.1.1.2 0 _ rfl).2)
  have hX : T.heap.size = ad E (gN σ) := by rw [hT]; exact hz
  have hsz : siz (gN σ) = n.toNatClampNeg + 1 := by
    unfold siz
    rw [h1]
    rfl
  have hcel : cel E (mk1 σ) F.heap (gN σ) := by
    refine ⟨fun h => ?_, fun h => ?_, fun h => ?_, fun h => ?_, fun _ => ⟨?_, fun i hi => ?_⟩⟩
    · rw [h1] at h; cases h
    · rw [h1] at h; cases h
    · rw [h1] at h; cases h
    · rw [h1] at h; cases h
    · rw [← hz, f2, hcA, h1]
      refine congrArg some ?_
      unfold arrV
      congr 1
      refine Array.ext (by simp) fun i hi1 hi2 => ?_
      have hi3 : i < n.toNatClampNeg := by simpa using hi1
      simp [hi3, va_rf, rw1, hz]
    · rw [h1] at hi
      have hi : i < n.toNatClampNeg := hi
      unfold rw1
      rw [← hz, hrow i hi, hcomp, h1]
      exact congrArg some (congrArg _ (funext fun j => congrArg Value.int (mk1_z.2.2.2.2.2 i j).symm))
  obtain ⟨t, a1, b1⟩ := kk F.heap locs ls (hH.mk hF h51 (by rw [f1, hsz]; omega) hold hcel) hlo hL F rfl X'
  refine ⟨t, step t ?_, b1⟩
  rw [hX]
  exact a1

def imin (x y : Int32) : Int32 := if y < x then y else x
def iabs (x : Int32) : Int32 := if 0 ≤ x then x else 0 - x
theorem x_objInit (C : Cx E p s m args meth c own cc nL) {idx : Nat} {a : Nat} (hlink : Cond.methodLink own idx Lib.objectInit ∈ tblG) (hinst : Cond.instanceMethod Lib.objectInit ∈ tblG) (hcode : Cond.code Lib.objectInit ⟨#[0xb1]⟩ 1 none ∈ tblG) (hR : 1 ≤ R.frames ∧ (st.map fun v => v.category).sum + 12 ≤ R.locals) (hd : decode cc pc = .ok (.invokespecial idx, 3)) (kk : X E p l e R s m args below meth c Q nL kc ks σ (pc + 3) L st) : X E p l e R s m args below meth c Q nL kc ks σ pc L (.ref a :: st) := by
  intro H locs ls hH hlo hL
  exact W.objInit C.1 C.2.1 C.2.2.2.1 (C.2.2.2.2.1 _ hlink) (C.2.2.2.2.1 _ hinst) (C.2.2.2.2.1 _ hcode) rfl (hL.1.trans C.2.2.1.symm) rfl hd hR.1 (by show 2 * 0 + _ + 12 ≤ _; omega) (kk H locs ls hH hlo hL)
theorem x_mmin (C : Cx E p s m args meth c own cc nL) {idx : Nat} {x y : Int32} (hlink : Cond.methodLink own idx Lib.Math.min.name ∈ tblG) (hst : Cond.static Lib.Math.min.name ∈ tblG) (hini : Cond.initialized "java/lang/Math" ∈ tblG) (hcode : Cond.code Lib.Math.min.name Lib.Math.min.code 2 (some .int) ∈ tblG) (hR : 1 ≤ R.frames ∧ (st.map fun v => v.category).sum + 13 ≤ R.locals ∧ kc ≤ R.cells ∧ ks ≤ R.slots) (hd : decode cc pc = .ok (.invokestatic idx, 3)) (kk : X E p l e R s m args below meth c Q nL kc ks σ (pc + 3) L (.int (imin x y) :: st)) : X E p l e R s m args below meth c Q nL kc ks σ pc L (.int y :: .int x :: st) := fun H locs ls hH hlo hL =>
  va_mmin C.1 C.2.1 (C.2.2.1.trans hL.1.symm) C.2.2.2.1 (C.2.2.2.2.1 _ hlink) (C.2.2.2.2.1 _ hst) (C.2.2.2.2.1 _ hini) (C.2.2.2.2.1 _ hcode) hR.1 hR.2.1 hR.2.2.1 hR.2.2.2 hd (kk H locs ls hH hlo hL)
theorem x_mabs (C : Cx E p s m args meth c own cc nL) {idx : Nat} {x : Int32} (hlink : Cond.methodLink own idx Lib.Math.abs.name ∈ tblG) (hst : Cond.static Lib.Math.abs.name ∈ tblG) (hini : Cond.initialized "java/lang/Math" ∈ tblG) (hcode : Cond.code Lib.Math.abs.name Lib.Math.abs.code 1 (some .int) ∈ tblG) (hR : 1 ≤ R.frames ∧ (st.map fun v => v.category).sum + 13 ≤ R.locals ∧ kc ≤ R.cells ∧ ks ≤ R.slots) (hd : decode cc pc = .ok (.invokestatic idx, 3)) (kk : X E p l e R s m args below meth c Q nL kc ks σ (pc + 3) L (.int (iabs x) :: st)) : X E p l e R s m args below meth c Q nL kc ks σ pc L (.int x :: st) := fun H locs ls hH hlo hL =>
  va_mabs C.1 C.2.1 (C.2.2.1.trans hL.1.symm) C.2.2.2.1 (C.2.2.2.2.1 _ hlink) (C.2.2.2.2.1 _ hst) (C.2.2.2.2.1 _ hini) (C.2.2.2.2.1 _ hcode) hR.1 hR.2.1 hR.2.2.1 hR.2.2.2 hd (kk H locs ls hH hlo hL)
/-! ends -/
abbrev Y (E : Ev) (p : Program) (l : Launch) (e : Env) (R : Room) (s : State) (m : MethodId) (args : Array Value) (below : List Frame) (meth : Method) (c : Code) (r : Option Value) (σ' : Sg) (mc ms nL kc ks : Nat) (σ : Sg) (pc : Nat) (L : List (Option Value)) (st : List Value) : Prop :=
  X E p l e R s m args below meth c (MQ below (QdX E r σ') args s mc ms (eF E)) nL kc ks σ pc L st
theorem x_wide {k n : Nat} {Q : State → Prop} (h1 : kc ≤ k) (h2 : ks ≤ n) (kk : X E p l e R s m args below meth c Q nL k n σ pc L st) : X E p l e R s m args below meth c Q nL kc ks σ pc L st := fun H locs ls hH hlo hL => W.widen h1 h2 (kk H locs ls hH hlo hL)
theorem x_iret (C : Cx E p s m args meth c own cc nL) {v : Int32} (hr : meth.sig.returnType = some .int) (hd : decode cc pc = .ok (.ireturn, 1)) : Y E p l e R s m args below meth c (some (.int v)) σ kc ks nL kc ks σ pc L [.int v] := fun H locs ls hH hlo hL =>
  W.iret C.1 C.2.1 hr (fun t ht hw => ⟨rfl, by rw [ht]; exact hH, C.2.2.2.2.2.1.warm hw⟩) hlo hd C.2.2.2.2.2.2
theorem x_zret (C : Cx E p s m args meth c own cc nL) {v : Int32} {ty : FieldType} (hr : meth.sig.returnType = some ty) (hn : narrow ty (.int v) = .int v) (hd : decode cc pc = .ok (.ireturn, 1)) : Y E p l e R s m args below meth c (some (.int v)) σ kc ks nL kc ks σ pc L [.int v] := fun H locs ls hH hlo hL =>
  W.zret C.1 C.2.1 hr hn (fun t ht hw => ⟨rfl, by rw [ht]; exact hH, C.2.2.2.2.2.1.warm hw⟩) hlo hd C.2.2.2.2.2.2
theorem x_lret (C : Cx E p s m args meth c own cc nL) {v : Int64} (hr : meth.sig.returnType = some .long) (hd : decode cc pc = .ok (.lreturn, 1)) : Y E p l e R s m args below meth c (some (.long v)) σ kc ks nL kc ks σ pc L [.long v] := fun H locs ls hH hlo hL =>
  W.lret C.1 C.2.1 hr (fun t ht hw => ⟨rfl, by rw [ht]; exact hH, C.2.2.2.2.2.1.warm hw⟩) hlo hd C.2.2.2.2.2.2
theorem x_vret (C : Cx E p s m args meth c own cc nL) (hr : meth.sig.returnType = none) (hd : decode cc pc = .ok (.return_, 1)) : Y E p l e R s m args below meth c none σ kc ks nL kc ks σ pc L [] := fun H locs ls hH hlo hL =>
  W.vret C.1 C.2.1 hr (fun t ht hw => ⟨rfl, by rw [ht]; exact hH, C.2.2.2.2.2.1.warm hw⟩) hlo hd C.2.2.2.2.2.2
/-! a contract out of a body -/
def xEnt (vs : List Value) (n : Nat) : List (Option Value) := (vs.flatMap fun v => if v.category = 2 then [some v, none] else [some v]) ++ List.replicate (n - (lg_sl vs).length) none
theorem Mt.ofX {y : MethodName} {b : ByteArray} {n : Nat} {rt : Option FieldType} {h mc ms : Nat} {vs : List Value} {r : Option Value} {σ' : Sg} (hy : plainName y.cls = true) (hn : (lg_sl vs).length ≤ n) {L0 : List (Option Value)} (hL0 : ∀ (i : Nat) (v : Value), L0[i]? = some (some v) → (i, v) ∈ lv_args 0 vs)
    (body : ∀ (p : Program) (e : Env) (s : State) (m : MethodId) (args : Array Value) (below : List Frame) (meth : Method) (c : Code), Cx E p s m args meth c y.cls b n → meth.sig.returnType = rt → meth.name = y.name → Y E p l e (rmA h mc ms) s m args below meth c r σ' mc ms n 0 0 σ 0 L0 []) : Mt E l y b n rt h mc ms vs σ r σ' := by
  refine Met.ofW (cc := b) (maxL := n) (ret := rt) hy rfl ?_
  intro p e s m args below meth c s₁ B hml hP
  obtain ⟨rfl, hH, hU⟩ := hP
  have hts : ∀ w ∈ tblG, w.before vs.toArray s = true := fun w hw => atoms_spec (ws := wsA y b n rt) B.pre w (List.mem_cons_of_mem _ hw)
  have hown : s.vm.findClass y.cls = some m.cls := findClass_of_methodNamed B.named
  have hl := lv_entry vs hn
  have hname : meth.name = y.name := (name_of_methodNamed B.named B.method).1
  have hx := body p e s m vs.toArray below meth c ⟨B.exec, B.bytes, hml, hown, hts, hU, B.notSynchronized⟩ B.returns hname s.heap [] _ hH (fun q hq => by cases hq) (xL.of hl hL0)
  rw [lg_entry_eq]
  exact hx
/-! calls -/
theorem x_back {st0 rest : List Value} {mc ms : Nat} {r : Option Value} {σ' : Sg} {a : Array Value} (hr : ∀ (H : Heap) (locs : List Loc) (ls : Array Slot), Hd E σ H → xL ls nL L → va_Run p l e R s m args below meth c H locs kc ks mc ms (F0 m pc ls st0) rest (fun st o t => QdX E r σ' a st o t) (eF E)) (kk : X E p l e R s m args below meth c Q nL (kc + mc) (ks + ms) σ' (pc + 3) L (r.toList ++ rest)) : X E p l e R s m args below meth c Q nL kc ks σ pc L st0 := by
  intro H locs ls hH hlo hL T hT Xs
  obtain ⟨v, st₀, t, T', L1, h0, X', hL1, e1, e2, ⟨hv, hH1, hU1⟩, step⟩ := hr H locs ls hH hL T hT Xs
  cases hv
  obtain ⟨t2, a1, b1⟩ := kk T'.heap (locs ++ L1) ls (by rw [e1]; exact hH1) (fun q hq => (List.mem_append.mp hq).elim (hlo q) (hL1 q)) hL T' rfl X'
  exact ⟨t2, step t2 a1, b1⟩
def cB (own : String) (idx : Nat) (y : MethodName) (b : ByteArray) (n : Nat) (rt : Option FieldType) (k : Nat) : Prop :=
  (Cond.methodLink own idx y ∈ tblG ∨ ∃ host, Cond.methodLinkNest own idx y host ∈ tblN) ∧ Cond.code y b n rt ∈ tblG ∧ Cond.initialized y.cls ∈ tblG ∧ (y.cls ≠ "java/lang/invoke/MethodHandle" ∧ y.cls ≠ "java/lang/invoke/VarHandle") ∧ (parseMethodDescriptor y.desc).map (fun d => d.parameters.length) = some k
theorem tbl_ws (C : Cx E p s m args meth c own cc nL) {y : MethodName} {b : ByteArray} {n : Nat} {rt : Option FieldType} (h : Cond.code y b n rt ∈ tblG) : ∀ w ∈ wsA y b n rt, ∀ (a' : Array Value) (U : State), s.WarmedH U.vm → w.before a' U = true := by
  refine pay_in (big := tblG) C.2.2.2.2.1 fun w hw => ?_
  have hm : w ∈ tblG := by
    rcases List.mem_cons.mp hw with e | h2
    · rw [e]; exact h
    · exact h2
  exact ⟨hm, good_of_word (List.mem_filter.mp hm).2⟩
theorem xrecv_of (C : Cx E p s m args meth c own cc nL) {H : Heap} (hH : Hd E σ H) {ci a N : Nat} {Cn : String} {T : u_T} (hc : clK ci Cn T N) (hk : ckO σ ci a = true) : ∃ cell : Cell, H[ad E a]? = some cell ∧ cell.vm.isStatics = false ∧ s.vm.findClass Cn = some cell.cls := by
  obtain ⟨⟨cell, q1, q2, q3, -⟩, -, hfc, -⟩ := obj_of C hH hc hk
  exact ⟨cell, q1, by rw [q3]; rfl, by rw [q2]; exact hfc⟩
theorem x_callV (C : Cx E p s m args meth c own cc nL) {idx ci a N n h mc ms k : Nat} {y : MethodName} {b : ByteArray} {rt : Option FieldType} {T : u_T} {As rest : List Value} {r : Option Value} {σ' : Sg} {st0 : List Value} (hM : Mt E l y b n rt h mc ms (.ref (ad E a) :: As) σ r σ') (hc : clK ci y.cls T N) (hk : ckO σ ci a = true) (cb : cB own idx y b n rt k) (hin : Cond.instanceMethod y ∈ tblG) (hse : Cond.selects y.cls y y ∈ tblG) (hst : st0 = As.reverse ++ .ref (ad E a) :: rest) (hk2 : As.length = k) (hW : (rest.map fun v => v.category).sum ≤ 8)
    (hR : h + 1 ≤ R.frames ∧ 8 + (n + 11) + 40 * h ≤ R.locals ∧ kc + mc ≤ R.cells ∧ ks + ms ≤ R.slots) (hd : decode cc pc = .ok (.invokevirtual idx, 3)) (kk : X E p l e R s m args below meth c Q nL (kc + mc) (ks + ms) σ' (pc + 3) L (r.toList ++ rest)) : X E p l e R s m args below meth c Q nL kc ks σ pc L st0 := by
  obtain ⟨hl, hcode, hini, hy, hlen⟩ := cb
  refine x_back (a := (Value.ref (ad E a) :: As).toArray) (fun H locs ls hH hL => ?_) kk
  have hp : PreV s H y.cls (ad E a) (PdX E (.ref (ad E a) :: As) σ) As := ⟨PdX.blind, xrecv_of C hH hc hk, fun U hU hw => ⟨rfl, by rw [hU]; exact hH, C.2.2.2.2.2.1.warm hw⟩⟩
  have hlen2 : ∀ sig, parseMethodDescriptor y.desc = some sig → k = sig.parameters.length := fun sig h => by
    rw [h] at hlen
    exact (Option.some.inj hlen).symm
  rcases hl with hl | ⟨host, hl⟩
  · exact va_runV ⟨C.1, C.2.1, C.2.2.1, C.2.2.2.1, C.2.2.2.2.1⟩ hM ⟨⟨rfl, rfl, hR.1, hR.2.1, tbl_ws C hcode, List.mem_cons_self, C.2.2.2.2.1 _ hcode, C.2.2.2.2.1 _ hini, hy, hlen2, C.2.2.2.2.1 _ hl⟩, C.2.2.2.2.1 _ hin, C.2.2.2.2.1 _ hse⟩ hp rfl hk2 hL.1 hst (lv_room hW) hd ⟨hR.2.2.1, hR.2.2.2⟩
  · exact va_runVN ⟨C.1, C.2.1, C.2.2.1, C.2.2.2.1, C.2.2.2.2.1⟩ hM ⟨⟨⟨rfl, rfl, hR.1, hR.2.1, tbl_ws C hcode, List.mem_cons_self⟩, C.2.2.2.2.1 _ hcode, C.2.2.2.2.1 _ hini, hy, hlen2, KN_of C hl rfl⟩, C.2.2.2.2.1 _ hin, C.2.2.2.2.1 _ hse⟩ hp rfl hk2 hL.1 hst (lv_room hW) hd ⟨hR.2.2.1, hR.2.2.2⟩
theorem x_callS (C : Cx E p s m args meth c own cc nL) {idx n h mc ms k : Nat} {y : MethodName} {b : ByteArray} {rt : Option FieldType} {As rest : List Value} {r : Option Value} {σ' : Sg} {st0 : List Value} (hM : Mt E l y b n rt h mc ms As σ r σ') (cb : cB own idx y b n rt k) (hin : Cond.static y ∈ tblG) (hst : st0 = As.reverse ++ rest) (hk2 : As.length = k) (hW : (rest.map fun v => v.category).sum ≤ 8)
    (hR : h + 1 ≤ R.frames ∧ 8 + (n + 11) + 40 * h ≤ R.locals ∧ kc + mc ≤ R.cells ∧ ks + ms ≤ R.slots) (hd : decode cc pc = .ok (.invokestatic idx, 3)) (kk : X E p l e R s m args below meth c Q nL (kc + mc) (ks + ms) σ' (pc + 3) L (r.toList ++ rest)) : X E p l e R s m args below meth c Q nL kc ks σ pc L st0 := by
  obtain ⟨hl, hcode, hini, hy, hlen⟩ := cb
  refine x_back (a := As.toArray) (fun H locs ls hH hL => ?_) kk
  have hp : PreS s H (PdX E As σ) As := ⟨PdX.blind, fun U hU hw => ⟨rfl, by rw [hU]; exact hH, C.2.2.2.2.2.1.warm hw⟩⟩
  have hlen2 : ∀ sig, parseMethodDescriptor y.desc = some sig → k = sig.parameters.length := fun sig h => by
    rw [h] at hlen
    exact (Option.some.inj hlen).symm
  rcases hl with hl | ⟨host, hl⟩
  · exact va_runS ⟨C.1, C.2.1, C.2.2.1, C.2.2.2.1, C.2.2.2.2.1⟩ hM ⟨⟨rfl, rfl, hR.1, hR.2.1, tbl_ws C hcode, List.mem_cons_self, C.2.2.2.2.1 _ hcode, C.2.2.2.2.1 _ hini, hy, hlen2, C.2.2.2.2.1 _ hl⟩, C.2.2.2.2.1 _ hin⟩ hp rfl hk2 hL.1 hst (lv_room hW) hd ⟨hR.2.2.1, hR.2.2.2⟩
  · exact va_runSN ⟨C.1, C.2.1, C.2.2.1, C.2.2.2.1, C.2.2.2.2.1⟩ hM ⟨⟨⟨rfl, rfl, hR.1, hR.2.1, tbl_ws C hcode, List.mem_cons_self⟩, C.2.2.2.2.1 _ hcode, C.2.2.2.2.1 _ hini, hy, hlen2, KN_of C hl rfl⟩, C.2.2.2.2.1 _ hin, trivial⟩ hp rfl hk2 hL.1 hst (lv_room hW) hd ⟨hR.2.2.1, hR.2.2.2⟩
theorem x_callI (C : Cx E p s m args meth c own cc nL) {idx a n h mc ms k : Nat} {y : MethodName} {b : ByteArray} {As rest : List Value} {r : Option Value} {σ' : Sg} {st0 : List Value} (hM : Mt E l y b n none h mc ms (.ref (ad E a) :: As) σ r σ') (cb : cB own idx y b n none k) (hname : y.name = "<init>") (hin : Cond.instanceMethod y ∈ tblG) (hst : st0 = As.reverse ++ .ref (ad E a) :: rest) (hk2 : As.length = k) (hW : (rest.map fun v => v.category).sum ≤ 8)
    (hR : h + 1 ≤ R.frames ∧ 8 + (n + 11) + 40 * h ≤ R.locals ∧ kc + mc ≤ R.cells ∧ ks + ms ≤ R.slots) (hd : decode cc pc = .ok (.invokespecial idx, 3)) (kk : X E p l e R s m args below meth c Q nL (kc + mc) (ks + ms) σ' (pc + 3) L (r.toList ++ rest)) : X E p l e R s m args below meth c Q nL kc ks σ pc L st0 := by
  obtain ⟨hl, hcode, hini, hy, hlen⟩ := cb
  refine x_back (a := (Value.ref (ad E a) :: As).toArray) (fun H locs ls hH hL => ?_) kk
  have hp : PreS s H (PdX E (.ref (ad E a) :: As) σ) (.ref (ad E a) :: As) := ⟨PdX.blind, fun U hU hw => ⟨rfl, by rw [hU]; exact hH, C.2.2.2.2.2.1.warm hw⟩⟩
  have hlen2 : ∀ sig, parseMethodDescriptor y.desc = some sig → k = sig.parameters.length := fun sig h => by
    rw [h] at hlen
    exact (Option.some.inj hlen).symm
  rcases hl with hl | ⟨host, hl⟩
  · exact va_runI ⟨C.1, C.2.1, C.2.2.1, C.2.2.2.1, C.2.2.2.2.1⟩ hM ⟨⟨rfl, rfl, hR.1, hR.2.1, tbl_ws C hcode, List.mem_cons_self, C.2.2.2.2.1 _ hcode, C.2.2.2.2.1 _ hini, hy, hlen2, C.2.2.2.2.1 _ hl⟩, hname, C.2.2.2.2.1 _ hin⟩ hp rfl hk2 hL.1 hst (lv_room hW) hd ⟨hR.2.2.1, hR.2.2.2⟩
  · exact va_runIN ⟨C.1, C.2.1, C.2.2.1, C.2.2.2.1, C.2.2.2.2.1⟩ hM ⟨⟨⟨rfl, rfl, hR.1, hR.2.1, tbl_ws C hcode, List.mem_cons_self⟩, C.2.2.2.2.1 _ hcode, C.2.2.2.2.1 _ hini, hy, hlen2, KN_of C hl rfl⟩, hname, C.2.2.2.2.1 _ hin⟩ hp rfl hk2 hL.1 hst (lv_room hW) hd ⟨hR.2.2.1, hR.2.2.2⟩

/-! what stands outside -/
theorem low_of {H : Heap} (hH : Hd E σ H) {a : Nat} {cell : Cell} (h : (eH E)[a]? = some cell) : H[a]? = some cell := by
  rw [hH.1.1 a ((Array.getElem?_eq_some_iff.mp h).1)]
  exact h
def sL (own : String) (idx : Nat) (Cn n d : String) : Prop := Cond.fieldLink own idx Cn n d ∈ tblG ∨ ∃ host, Cond.fieldLinkNest own idx Cn n d host ∈ tblN
theorem x_gets (C : Cx E p s m args meth c own cc nL) {Cn n d : String} {idx : Nat} {v : Value} (hZ : va_Z Cn n d v (eF E) s (eH E)) (hl : sL own idx Cn n d) (hd : decode cc pc = .ok (.getstatic idx, 3)) (kk : X E p l e R s m args below meth c Q nL kc ks σ (pc + 3) L (v :: st)) : X E p l e R s m args below meth c Q nL kc ks σ pc L st := by
  intro H locs ls hH hlo hL
  obtain ⟨cf, kf, fi, f, a, cell, h1, h2, h3, h4, h5, h6, h7, h8⟩ := hZ
  rcases hl with hl | ⟨host, hl⟩
  · exact W.gets C.1 C.2.1 C.2.2.2.1 (C.2.2.2.2.1 _ hl) h1 h2 h3 h4 (low_of hH h5) (fun e => by rw [e] at h6; cases h6) h7 rfl hd (kk H locs ls hH hlo hL)
  · exact va_WgetsN C.1 C.2.1 C.2.2.2.1 (KN_of C hl rfl) h1 h2 h3 h4 (low_of hH h5) (fun e => by rw [e] at h6; cases h6) h7 rfl hd (kk H locs ls hH hlo hL)
theorem x_getX (C : Cx E p s m args meth c own cc nL) {o n d : String} {idx t : Nat} {v : Value} (hO : va_OF o n d v t (eF E) s (eH E)) (hl : sL own idx o n d) (hd : decode cc pc = .ok (.getfield idx, 3)) (kk : X E p l e R s m args below meth c Q nL kc ks σ (pc + 3) L (v :: st)) : X E p l e R s m args below meth c Q nL kc ks σ pc L (.ref t :: st) := by
  intro H locs ls hH hlo hL
  obtain ⟨cf, k, i, f, cell, h1, h2, h3, h4, h5, h6⟩ := hO
  rcases hl with hl | ⟨host, hl⟩
  · exact W.getf C.1 C.2.1 C.2.2.2.1 (C.2.2.2.2.1 _ hl) h1 h2 (low_of hH h3) h4 h5 rfl rfl hd (kk H locs ls hH hlo hL)
  · exact va_Wgetf C.1 C.2.1 C.2.2.2.1 (KN_of C hl rfl) h1 h2 (low_of hH h3) h4 h5 rfl rfl hd (kk H locs ls hH hlo hL)
theorem ext_in {cell : Cell} {i : Int32} {N : Nat} (h4 : N ≤ cell.slots.size) (hi : inb i N = true) : ¬ (i < 0 ∨ cell.slots.size ≤ i.toNatClampNeg) := by
  obtain ⟨h1, h2⟩ := inb_s hi
  rintro (q | q)
  · exact h1 (Or.inl q)
  · omega
theorem x_aaldX (C : Cx E p s m args meth c own cc nL) {Cn : String} {t N : Nat} {f : Nat → Value} {i : Int32} (hT : va_T (.object Cn) t N f (eF E) s (eH E)) (hi : inb i N = true) (hd : decode cc pc = .ok (.aaload, 1)) (kk : X E p l e R s m args below meth c Q nL kc ks σ (pc + 1) L (f i.toNatClampNeg :: st)) : X E p l e R s m args below meth c Q nL kc ks σ pc L (.int i :: .ref t :: st) := by
  intro H locs ls hH hlo hL
  obtain ⟨cell, h1, h2, h3, h4, h5, h6, h7⟩ := hT
  exact W.aald (ty := .object Cn) C.1 C.2.1 (low_of hH h1) h2 rfl h3 (ext_in h4 hi) (h6 _ (inb_s hi).2) rfl rfl hd (kk H locs ls hH hlo hL)
theorem x_ialdX (C : Cx E p s m args meth c own cc nL) {t N : Nat} {f : Nat → Value} {i : Int32} (hT : va_T .int t N f (eF E) s (eH E)) (hi : inb i N = true) (hd : decode cc pc = .ok (.iaload, 1)) (kk : X E p l e R s m args below meth c Q nL kc ks σ (pc + 1) L (f i.toNatClampNeg :: st)) : X E p l e R s m args below meth c Q nL kc ks σ pc L (.int i :: .ref t :: st) := by
  intro H locs ls hH hlo hL
  obtain ⟨cell, h1, h2, h3, h4, h5, h6, h7⟩ := hT
  exact W.iald C.1 C.2.1 (low_of hH h1) h2 h3 (ext_in h4 hi) (h6 _ (inb_s hi).2) rfl rfl hd (kk H locs ls hH hlo hL)
theorem x_baldX (C : Cx E p s m args meth c own cc nL) {t N : Nat} {f : Nat → Value} {i : Int32} (hT : va_T .byte t N f (eF E) s (eH E)) (hi : inb i N = true) (hd : decode cc pc = .ok (.baload, 1)) (kk : X E p l e R s m args below meth c Q nL kc ks σ (pc + 1) L (f i.toNatClampNeg :: st)) : X E p l e R s m args below meth c Q nL kc ks σ pc L (.int i :: .ref t :: st) := by
  intro H locs ls hH hlo hL
  obtain ⟨cell, h1, h2, h3, h4, h5, h6, h7⟩ := hT
  exact W.bald C.1 C.2.1 (low_of hH h1) h2 h3 (ext_in h4 hi) (h6 _ (inb_s hi).2) rfl rfl hd (kk H locs ls hH hlo hL)
theorem x_alenX (C : Cx E p s m args meth c own cc nL) {ty : FieldType} {t N : Nat} {f : Nat → Value} (hT : va_T ty t N f (eF E) s (eH E)) (hd : decode cc pc = .ok (.arraylength, 1)) (kk : X E p l e R s m args below meth c Q nL kc ks σ (pc + 1) L (.int (nI N) :: st)) : X E p l e R s m args below meth c Q nL kc ks σ pc L (.ref t :: st) := by
  intro H locs ls hH hlo hL
  obtain ⟨cell, h1, h2, h3, h4, h5, h6, h7⟩ := hT
  exact W.alen (n := nI N) C.1 C.2.1 (low_of hH h1) h2 h5 rfl rfl hd (kk H locs ls hH hlo hL)
end XC
/-! the shape of what a method's bytecode says: checks and calls may fail -/
def chk {α : Type} (b : Bool) (x : Option α) : Option α := match b with
  | true => x
  | false => none
def bnd {α β : Type} (d : Option (α × Sg)) (k : α → Sg → Option β) : Option β := match d with
  | some r => k r.1 r.2
  | none => none
theorem chk_s {α : Type} {b : Bool} {x : Option α} {r : α} (h : chk b x = some r) : b = true ∧ x = some r := by
  cases b with
  | true => exact ⟨rfl, h⟩
  | false => cases h
theorem bnd_s {α β : Type} {d : Option (α × Sg)} {k : α → Sg → Option β} {r : β} (h : bnd d k = some r) : ∃ (a : α) (σ : Sg), d = some (a, σ) ∧ k a σ = some r := by
  cases d with
  | none => cases h
  | some x => exact ⟨x.1, x.2, rfl, h⟩
theorem some_s {α β : Type} {a a' : α} {b b' : β} (h : some (a, b) = some (a', b')) : a = a' ∧ b = b' := by
  cases h
  exact ⟨rfl, rfl⟩

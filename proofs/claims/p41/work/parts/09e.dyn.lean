section XD4
variable {E : Ev} {p : Program} {l : Launch} {e : Env} {R : Room} {s : State} {m : MethodId} {args : Array Value} {below : List Frame} {meth : Method} {c : Code} {Q : State → Prop} {own : String} {cc : ByteArray} {nL kc ks : Nat} {σ : Sg} {pc : Nat} {L : List (Option Value)} {st : List Value}
/-- a private method is selected by a class whose object it is asked of -/
theorem sel_priv {K : String} {y z : MethodName} {s : State} {args : Array Value} (hy : y.cls ≠ "java/lang/invoke/MethodHandle" ∧ y.cls ≠ "java/lang/invoke/VarHandle") (hz : z.cls = y.cls) (hsel : (Cond.selects K z z).before args s = true) (hpriv : (Cond.privateMethod y).before args s = true) (hinst : (Cond.instanceMethod y).before args s = true) : (Cond.selects K y y).before args s = true := by
  obtain ⟨c2, r2, m2, q1, q2, q3, q4, kP, hkP, hkPi⟩ := Cond.selects_spec hsel
  obtain ⟨mk, methM, hnamed, hmethM, -, -⟩ := Cond.instanceMethod_spec hinst
  have hfound : s.methodFound? y.cls y.name y.desc = some mk := State.methodFound?_of_named hnamed hy
  have hcls : mk.cls = m2.cls := by
    have h1 := findClass_of_methodNamed hnamed
    have h2 := findClass_of_methodNamed q3
    rw [hz] at h2
    exact Option.some.inj (h1.symm.trans h2)
  have hsel2 : selectMethod {} s.vm c2 mk = .method mk := selectMethod_private hmethM (Cond.privateMethod_at hpriv mk methM hnamed hmethM)
  simp only [Cond.before, Cond.holds, Cond.value, q1, hfound, hnamed, hsel2, hcls, hkP]
  simp
  exact hkPi
theorem drecv_of (C : Cx E p s m args meth c own cc nL) {H : Heap} (hH : Hd E σ H) {ci a N : Nat} {Cn : String} {T : u_T} (hc : clK ci Cn T N) (hk : ckP σ ci 0 a = true) : ∃ cell : Cell, H[ad E a]? = some cell ∧ cell.vm.isStatics = false ∧ s.vm.findClass Cn = some cell.cls := by
  rcases ckP_s hk with hk | ⟨rfl, hk2, h1, h2, h3⟩
  · obtain ⟨⟨cell, q1, q2, q3, -⟩, -, hfc, -⟩ := dobj_of C hH hc hk
    exact ⟨cell, q1, by rw [q3]; rfl, by rw [q2]; exact hfc⟩
  · obtain ⟨o1, o2, o3, o4⟩ := hH.1.2.1 a h1 h2
    rw [o1] at h3
    obtain ⟨⟨cell, g1, g2, g3, g4⟩, -, -⟩ := (out_of C h1 h2).2.2.1 h3
    have e : (Cn, T, N) = (RJ0, TJ0, 4) := Option.some.inj (hc.1.symm.trans rfl)
    cases e
    exact ⟨cell, low_of hH g1, g2, g3⟩
theorem x_dcallV (C : Cx E p s m args meth c own cc nL) {idx ci a N n h mc ms k : Nat} {y : MethodName} {b : ByteArray} {rt : Option FieldType} {T : u_T} {As rest : List Value} {r : Option Value} {σ' : Sg} {st0 : List Value} (hM : Mt E l y b n rt h mc ms (.ref (ad E a) :: As) σ r σ') (hc : clK ci y.cls T N) (hk : ckP σ ci 0 a = true) (cb : cB own idx y b n rt k) (hin : Cond.instanceMethod y ∈ tblG) (hse : Cond.selects y.cls y y ∈ tblG) (hst : st0 = As.reverse ++ .ref (ad E a) :: rest) (hk2 : As.length = k) (hW : (rest.map fun v => v.category).sum ≤ 8)
    (hR : h + 1 ≤ R.frames ∧ 8 + (n + 11) + 40 * h ≤ R.locals ∧ kc + mc ≤ R.cells ∧ ks + ms ≤ R.slots) (hd : decode cc pc = .ok (.invokevirtual idx, 3)) (kk : X E p l e R s m args below meth c Q nL (kc + mc) (ks + ms) σ' (pc + 3) L (r.toList ++ rest)) : X E p l e R s m args below meth c Q nL kc ks σ pc L st0 := by
  obtain ⟨hl, hcode, hini, hy, hlen⟩ := cb
  refine x_back (a := (Value.ref (ad E a) :: As).toArray) (fun H locs ls hH hL => ?_) kk
  have hp : PreV s H y.cls (ad E a) (PdX E (.ref (ad E a) :: As) σ) As := ⟨PdX.blind, drecv_of C hH hc hk, fun U hU hw => ⟨rfl, by rw [hU]; exact hH, C.2.2.2.2.2.1.warm hw⟩⟩
  have hlen2 : ∀ sig, parseMethodDescriptor y.desc = some sig → k = sig.parameters.length := fun sig h => by
    rw [h] at hlen
    exact (Option.some.inj hlen).symm
  rcases hl with hl | ⟨host, hl⟩
  · exact va_runV ⟨C.1, C.2.1, C.2.2.1, C.2.2.2.1, C.2.2.2.2.1⟩ hM ⟨⟨rfl, rfl, hR.1, hR.2.1, tbl_ws C hcode, List.mem_cons_self, C.2.2.2.2.1 _ hcode, C.2.2.2.2.1 _ hini, hy, hlen2, C.2.2.2.2.1 _ hl⟩, C.2.2.2.2.1 _ hin, C.2.2.2.2.1 _ hse⟩ hp rfl hk2 hL.1 hst (lv_room hW) hd ⟨hR.2.2.1, hR.2.2.2⟩
  · exact va_runVN ⟨C.1, C.2.1, C.2.2.1, C.2.2.2.1, C.2.2.2.2.1⟩ hM ⟨⟨⟨rfl, rfl, hR.1, hR.2.1, tbl_ws C hcode, List.mem_cons_self⟩, C.2.2.2.2.1 _ hcode, C.2.2.2.2.1 _ hini, hy, hlen2, KN_of C hl rfl⟩, C.2.2.2.2.1 _ hin, C.2.2.2.2.1 _ hse⟩ hp rfl hk2 hL.1 hst (lv_room hW) hd ⟨hR.2.2.1, hR.2.2.2⟩
/-- of StringBuilder, by a name of the class above: x is named, y selected -/
def selQ (x y : MethodName) : Prop := Cond.selects RJ4 x y ∈ tblG
theorem x_dcallU (C : Cx E p s m args meth c own cc nL) {idx a n n0 h mc ms k : Nat} {x y : MethodName} {b b0 : ByteArray} {rt : Option FieldType} {As rest : List Value} {r : Option Value} {σ' : Sg} {st0 : List Value} (hM : Mt E l y b n rt h mc ms (.ref (ad E a) :: As) σ r σ') (hc : clK 8 RJ4 TJ4 4) (hk : ckP σ 8 0 a = true) (hl : Cond.methodLink own idx x ∈ tblG) (hsm : Cond.sameMethod x.cls RJ5 x.name x.desc ∈ tblG) (hdx : Cond.instanceMethod ⟨RJ5, x.name, x.desc⟩ ∈ tblG ∧ Cond.code ⟨RJ5, x.name, x.desc⟩ b0 n0 rt ∈ tblG) (hse : selQ x y) (hs0 : Cond.selects RJ4 yJ5_isLatin1_aae02 yJ5_isLatin1_aae02 ∈ tblG) (hin : Cond.instanceMethod y ∈ tblG) (hini : Cond.initialized y.cls ∈ tblG) (hcode : Cond.code y b n rt ∈ tblG) (hlen : (parseMethodDescriptor x.desc).map (fun d => d.parameters.length) = some k) (hst : st0 = As.reverse ++ .ref (ad E a) :: rest) (hk2 : As.length = k) (hW : (rest.map fun v => v.category).sum ≤ 8)
    (hR : h + 1 ≤ R.frames ∧ 8 + (n + 11) + 40 * h ≤ R.locals ∧ kc + mc ≤ R.cells ∧ ks + ms ≤ R.slots) (hd : decode cc pc = .ok (.invokevirtual idx, 3)) (kk : X E p l e R s m args below meth c Q nL (kc + mc) (ks + ms) σ' (pc + 3) L (r.toList ++ rest)) : X E p l e R s m args below meth c Q nL kc ks σ pc L st0 := by
  refine x_back (a := (Value.ref (ad E a) :: As).toArray) (fun H locs ls hH hL => ?_) kk
  have hp : PreV s H RJ4 (ad E a) (PdX E (.ref (ad E a) :: As) σ) As := ⟨PdX.blind, drecv_of C hH hc hk, fun U hU hw => ⟨rfl, by rw [hU]; exact hH, C.2.2.2.2.2.1.warm hw⟩⟩
  have hlen2 : ∀ sig, parseMethodDescriptor x.desc = some sig → k = sig.parameters.length := fun sig h => by
    rw [h] at hlen
    exact (Option.some.inj hlen).symm
  have hsel : (Cond.selects RJ4 x y).before args s = true := by
    exact C.2.2.2.2.1 _ hse
  exact va_runU (x := x) (C := RJ4) (owner := RJ5) (n := k) ⟨C.1, C.2.1, C.2.2.1, C.2.2.2.1, C.2.2.2.2.1⟩ hM ⟨⟨rfl, rfl, hR.1, hR.2.1, tbl_ws C hcode, List.mem_cons_self⟩, C.2.2.2.2.1 _ hcode, C.2.2.2.2.1 _ hini, ⟨by decide, by decide⟩, hlen2, C.2.2.2.2.1 _ hl, C.2.2.2.2.1 _ hsm, va_Decl.of (C.2.2.2.2.1 _ hdx.1) (C.2.2.2.2.1 _ hdx.2), hsel, C.2.2.2.2.1 _ hin⟩ hp rfl hk2 hL.1 hst (lv_room hW) hd ⟨hR.2.2.1, hR.2.2.2⟩
/-- super.name(..) of StringBuilder -/
theorem x_dcallSU (C : Cx E p s m args meth c own cc nL) {idx a n h mc ms k : Nat} {y : MethodName} {b : ByteArray} {rt : Option FieldType} {As rest : List Value} {r : Option Value} {σ' : Sg} {st0 : List Value} (hM : Mt E l y b n rt h mc ms (.ref (ad E a) :: As) σ r σ') (hc : clK 8 RJ4 TJ4 4) (hk : ckP σ 8 0 a = true) (cb : Cond.methodLink own idx y ∈ tblG ∧ Cond.sameMethod y.cls y.cls y.name y.desc ∈ tblG ∧ Cond.superclass own y.cls ∈ tblG ∧ Cond.instanceMethod y ∈ tblG ∧ Cond.initialized y.cls ∈ tblG ∧ Cond.code y b n rt ∈ tblG ∧ y.name ≠ "<init>" ∧ (parseMethodDescriptor y.desc).map (fun d => d.parameters.length) = some k) (hst : st0 = As.reverse ++ .ref (ad E a) :: rest) (hk2 : As.length = k) (hW : (rest.map fun v => v.category).sum ≤ 8)
    (hR : h + 1 ≤ R.frames ∧ 8 + (n + 11) + 40 * h ≤ R.locals ∧ kc + mc ≤ R.cells ∧ ks + ms ≤ R.slots) (hd : decode cc pc = .ok (.invokespecial idx, 3)) (kk : X E p l e R s m args below meth c Q nL (kc + mc) (ks + ms) σ' (pc + 3) L (r.toList ++ rest)) : X E p l e R s m args below meth c Q nL kc ks σ pc L st0 := by
  obtain ⟨hl, hsm, hsup, hin, hini, hcode, hno, hlen⟩ := cb
  refine x_back (a := (Value.ref (ad E a) :: As).toArray) (fun H locs ls hH hL => ?_) kk
  have hp : PreV s H RJ4 (ad E a) (PdX E (.ref (ad E a) :: As) σ) As := ⟨PdX.blind, drecv_of C hH hc hk, fun U hU hw => ⟨rfl, by rw [hU]; exact hH, C.2.2.2.2.2.1.warm hw⟩⟩
  have hlen2 : ∀ sig, parseMethodDescriptor y.desc = some sig → k = sig.parameters.length := fun sig h => by
    rw [h] at hlen
    exact (Option.some.inj hlen).symm
  exact va_runSU (C.2.2.2.2.2.1.1.1 8 _ hc.1).2 ⟨C.1, C.2.1, C.2.2.1, C.2.2.2.1, C.2.2.2.2.1⟩ hM ⟨⟨rfl, rfl, hR.1, hR.2.1, tbl_ws C hcode, List.mem_cons_self⟩, C.2.2.2.2.1 _ hl, C.2.2.2.2.1 _ hsm, C.2.2.2.2.1 _ hsup, C.2.2.2.2.1 _ hin, C.2.2.2.2.1 _ hini, C.2.2.2.2.1 _ hcode, hno, hlen2⟩ hp rfl hk2 hL.1 hst (lv_room hW) hd ⟨hR.2.2.1, hR.2.2.2⟩
/-! texts and statics -/
theorem x_ldcT (C : Cx E p s m args meth c "ProratesLaw" cc nL) {idx i : Nat} {tx : String} (hm : (idx, tx, i) ∈ strL) (hi : i < 1000) (hd : decode cc pc = .ok (.ldc idx, 2)) (kk : X E p l e R s m args below meth c Q nL kc ks σ (pc + 2) L (.ref (ad E (1000 + i)) :: st)) : X E p l e R s m args below meth c Q nL kc ks σ pc L st := by
  refine x_ldcS C (kxS C.2.2.2.2.2.1.2 (idx, tx, i) hm) hd ?_
  rw [← ad_X hi]
  exact kk
theorem x_getK (C : Cx E p s m args meth c own cc nL) {idx : Nat} (hl : sL own idx "ProratesLaw" "KINDS" "[Ljava/lang/String;") (hd : decode cc pc = .ok (.getstatic idx, 3)) (kk : X E p l e R s m args below meth c Q nL kc ks σ (pc + 3) L (.ref (ad E 1025) :: st)) : X E p l e R s m args below meth c Q nL kc ks σ pc L st :=
  x_gets C (kxK C.2.2.2.2.2.1.2) hl hd (by rw [← ad_X (by decide)]; exact kk)
theorem x_getD1 (C : Cx E p s m args meth c own cc nL) {idx : Nat} (hl : sL own idx "java/lang/Integer" "DigitOnes" "[B") (hd : decode cc pc = .ok (.getstatic idx, 3)) (kk : X E p l e R s m args below meth c Q nL kc ks σ (pc + 3) L (.ref (ad E 1026) :: st)) : X E p l e R s m args below meth c Q nL kc ks σ pc L st :=
  x_gets C (kx1 C.2.2.2.2.2.1.2) hl hd (by rw [← ad_X (by decide)]; exact kk)
theorem x_getD10 (C : Cx E p s m args meth c own cc nL) {idx : Nat} (hl : sL own idx "java/lang/Integer" "DigitTens" "[B") (hd : decode cc pc = .ok (.getstatic idx, 3)) (kk : X E p l e R s m args below meth c Q nL kc ks σ (pc + 3) L (.ref (ad E 1027) :: st)) : X E p l e R s m args below meth c Q nL kc ks σ pc L st :=
  x_gets C (kx10 C.2.2.2.2.2.1.2) hl hd (by rw [← ad_X (by decide)]; exact kk)
theorem x_getC (C : Cx E p s m args meth c own cc nL) {idx : Nat} (hl : sL own idx "java/lang/String" "COMPACT_STRINGS" "Z") (hd : decode cc pc = .ok (.getstatic idx, 3)) (kk : X E p l e R s m args below meth c Q nL kc ks σ (pc + 3) L (.int 1 :: st)) : X E p l e R s m args below meth c Q nL kc ks σ pc L st :=
  x_gets C (kxC C.2.2.2.2.2.1.2) hl hd kk
/-! what is made only grows -/
def Mo (σ σ' : Sg) : Prop := gM σ ≤ gM σ' ∧ gZ σ ≤ gZ σ'
def Me (σ σ' : Sg) : Prop := gM σ' = gM σ ∧ gZ σ' = gZ σ
def ckT2 (σ σ' : Sg) : Bool := decide (gM σ' = gM σ) && decide (gZ σ' = gZ σ)
theorem ckT2_s {σ σ' : Sg} (h : ckT2 σ σ' = true) : gM σ' = gM σ ∧ gZ σ' = gZ σ := by
  unfold ckT2 at h
  simp only [Bool.and_eq_true, decide_eq_true_eq] at h
  exact h
/-- room for all that is made till the end -/
def RR (R : Room) (h mc ms : Nat) : Prop := h ≤ R.frames ∧ 40 * h ≤ R.locals ∧ mc ≤ R.cells ∧ ms ≤ R.slots
theorem rr_own {h mc ms : Nat} : RR (rmA h mc ms) h mc ms := ⟨Nat.le_refl _, Nat.le_refl _, Nat.le_refl _, Nat.le_refl _⟩
end XD4

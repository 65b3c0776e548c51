/-! THE WORDS OF THE THROWS, and what else a throw needs -/
def kyN : List String := ["java/lang/RuntimeException", "java/lang/Exception"]
def kyI : String := "java/lang/IndexOutOfBoundsException"
def kyE : String := "java/util/NoSuchElementException"
def kyBad (X : String) : List Cond := [.declares (Bundle.initS "java/lang/RuntimeException"), .declares (Bundle.initS "java/lang/Exception"), .declares (Bundle.initS Bundle.tN), .castable X X]
def kyLI : List Cond := (ky_atoms "Prorates" 144 kyI 7 prog_16_method_2_code kyN).filter vx_no
def kyLE : List Cond := (ky_atoms "Prorates" 151 kyE 13 prog_25_method_4_code kyN).filter vx_no
def kyPI : List Nat := [192, 1193, 1202, 1205, 1208, 1210, 1194, 1195, 203, 204, 1196, 1201, 1206, 1226, 1183, 1227, 1185, 1228, 1187, 1197, 1199, 1189, 1222, 1223, 1225, 1189, 1213, 1214, 1215, 1216, 1216, 1217, 1218, 1219, 1219, 1220, 1221, 1222, 1212, 1172, 1180, 1181, 1182, 1184, 1186, 1188, 1192, 1191, 1190]
def kyPE : List Nat := [192, 1193, 1202, 1205, 1208, 1210, 1194, 1195, 203, 204, 1196, 1201, 1206, 1226, 1183, 1227, 1185, 1228, 1187, 1197, 1199, 1189, 1222, 1223, 1225, 1189, 1249, 1250, 1251, 1216, 1216, 1217, 1218, 1219, 1219, 1220, 1221, 1222, 1248, 1239, 1241, 1204, 1242, 1243, 1244, 1245, 1192, 1191, 1246]
theorem ky_posI : kyLI.filter goodWord = kyPI.filterMap (fun i => lw_tbl[i]?) := by decide +kernel
theorem ky_posE : kyLE.filter goodWord = kyPE.filterMap (fun i => lw_tbl[i]?) := by decide +kernel
theorem ky_badI : ∀ w ∈ kyLI.filter (fun w => !goodWord w), w ∈ kyBad kyI := by decide +kernel
theorem ky_badE : ∀ w ∈ kyLE.filter (fun w => !goodWord w), w ∈ kyBad kyE := by decide +kernel
theorem ky_inT {L : List Cond} {P : List Nat} (h : L.filter goodWord = P.filterMap (fun i => lw_tbl[i]?)) : ∀ w ∈ L.filter goodWord, w ∈ tblG := by
  intro w hw
  have hg := (List.mem_filter.mp hw).2
  rw [h] at hw
  obtain ⟨i, -, hi⟩ := List.mem_filterMap.mp hw
  exact tG i hi hg
/-- what a throw needs, and what a catch needs -/
def KV (E : Ev) (U : State) : Prop :=
  vx_Zq Bundle.tN "UNASSIGNED_STACK" Bundle.steD (eF E) U (eH E) ∧ vx_Zq Bundle.tN "SUPPRESSED_SENTINEL" Bundle.listD (eF E) U (eH E) ∧
  (∃ q, vk_R "Prorates" 142 "no such proviso" q U) ∧ (∃ q, vk_R "Prorates" 149 "no such what" q U) ∧ (∃ q, vk_R "Prorates" 167 "no such ticket" q U) ∧
  va_Nw (.declares (Bundle.initS "java/lang/RuntimeException")) U ∧ va_Nw (.declares (Bundle.initS "java/lang/Exception")) U ∧ va_Nw (.declares (Bundle.initS Bundle.tN)) U ∧ va_Nw (.castable kyI kyI) U ∧ va_Nw (.castable kyE kyE) U ∧ va_Nc kyE kyI U
theorem KV.warm {E : Ev} {s U : State} (hW : s.WarmedH U.vm) (h : KV E s) : KV E U := by
  obtain ⟨h1, h2, ⟨a, h3⟩, ⟨b, h4⟩, ⟨d, h5⟩, h6, h7, h8, h9, h10, h11⟩ := h
  have hv := hW.alike
  exact ⟨h1.moved hv, h2.moved hv, ⟨a, h3.warm hW⟩, ⟨b, h4.warm hW⟩, ⟨d, h5.warm hW⟩, h6.warmD hW, h7.warmD hW, h8.warmD hW, h9.warmC hW, h10.warmC hW, h11.moved hv⟩
theorem KV.same {E : Ev} {u U : State} (hv : U.vm = u.vm) (h : KV E u) : KV E U := by
  obtain ⟨h1, h2, ⟨a, h3⟩, ⟨b, h4⟩, ⟨d, h5⟩, h6, h7, h8, h9, h10, h11⟩ := h
  have ha : u.vm.Alike U.vm := by rw [hv]; exact Vm.Alike.refl _
  exact ⟨h1.moved ha, h2.moved ha, ⟨a, h3.same hv⟩, ⟨b, h4.same hv⟩, ⟨d, h5.same hv⟩, h6.same rfl hv.symm, h7.same rfl hv.symm, h8.same rfl hv.symm, h9.same rfl hv.symm, h10.same rfl hv.symm, h11.moved ha⟩
theorem KV.bad {E : Ev} {s : State} {args : Array Value} (h : KV E s) {X : String} (hX : X = kyI ∨ X = kyE) : ∀ w ∈ kyBad X, w.before args s = true := by
  obtain ⟨-, -, -, -, -, h6, h7, h8, h9, h10, -⟩ := h
  intro w hw
  unfold kyBad at hw
  rcases List.mem_cons.mp hw with rfl | hw
  · exact va_Nw.use rfl h6
  rcases List.mem_cons.mp hw with rfl | hw
  · exact va_Nw.use rfl h7
  rcases List.mem_cons.mp hw with rfl | hw
  · exact va_Nw.use rfl h8
  rcases List.mem_cons.mp hw with rfl | hw
  · rcases hX with rfl | rfl
    · exact va_Nw.use rfl h9
    · exact va_Nw.use rfl h10
  · cases hw
/-- a method that may throw, its start -/
def PdV (E : Ev) (vs : List Value) (σ : Sg) : Array Value → State → Prop := fun a U => PdX E vs σ a U ∧ KV E U
theorem PdV.blind {E : Ev} {vs : List Value} {σ : Sg} : FrameBlind (PdV E vs σ) := fun a U g mk h => ⟨PdX.blind a U g mk h.1, KV.same (u := U) (U := U.calling g mk a) rfl h.2⟩
/-- other cells may have been made -/
def nF (σ : Sg) : Sg := (σ.1, σ.2.1, σ.2.2.1, σ.2.2.2.1, σ.2.2.2.2.1, σ.2.2.2.2.2.1, σ.2.2.2.2.2.2.1, false)
theorem nF_gI {σ : Sg} : gI (nF σ) = gI σ := rfl
theorem nF_gN {σ : Sg} : gN (nF σ) = gN σ := rfl
theorem Hd.ext {E : Ev} {σ : Sg} {H H1 : Heap} (h : Hd E σ H) (hz : H.size ≤ H1.size) (hq : ∀ q : Nat, q < H.size → H1[q]? = H[q]?) : Hd E (nF σ) H1 := by
  obtain ⟨b1, b2, b3, b4, b5, b6⟩ := h
  have hN : gN (nF σ) = gN σ := rfl
  refine ⟨fun q hq0 => by rw [hq q (by omega)]; exact b1 q hq0, by rw [hN]; omega, fun hf => (nomatch hf), by rw [hN]; exact b4, by rw [hN]; exact b5, fun a h0 ha => ?_⟩
  rw [hN] at ha
  refine (b6 a h0 ha).kept (fun q h1 => hq q ?_) (fun _ => rfl) (fun _ => rfl) (fun _ => rfl) (fun _ => rfl) (fun _ => rfl) (fun _ _ => rfl)
  have h2 := h1.2
  rw [ad_lt (by omega)] at h2
  have := off_lt ha
  omega
section XT
variable {E : Ev} {p : Program} {l : Launch} {e : Env} {R : Room} {s : State} {m : MethodId} {args : Array Value} {below : List Frame} {meth : Method} {c : Code} {cc : ByteArray} {nL kc ks : Nat} {σ : Sg} {pc : Nat} {L : List (Option Value)} {st : List Value}
variable {Qc : Array Value → State → Outcome → State → Prop}
theorem low_Zq {C n d : String} {U : State} {H : Heap} (hH : Hd E σ H) (h : vx_Zq C n d (eF E) U (eH E)) : vx_Zq C n d (eF E) U H := h.kept (fun a ha _ => hH.1 a ha)
theorem ky_i0 : decode prog_16_method_2_code 0 = .ok (.aload_n 0, 1) := by decide +kernel
theorem ky_i1 : decode prog_16_method_2_code 1 = .ok (.aload_n 1, 1) := by decide +kernel
theorem ky_i2 : decode prog_16_method_2_code 2 = .ok (.invokespecial 7, 3) := by decide +kernel
theorem ky_i5 : decode prog_16_method_2_code 5 = .ok (.return_, 1) := by decide +kernel
theorem ky_e0 : decode prog_25_method_4_code 0 = .ok (.aload_n 0, 1) := by decide +kernel
theorem ky_e1 : decode prog_25_method_4_code 1 = .ok (.aload_n 1, 1) := by decide +kernel
theorem ky_e2 : decode prog_25_method_4_code 2 = .ok (.invokespecial 13, 3) := by decide +kernel
theorem ky_e5 : decode prog_25_method_4_code 5 = .ok (.return_, 1) := by decide +kernel
theorem x_throwI (C : Cx E p s m args meth c "Prorates" cc nL) (hV : KV E s) (hl : l.stackTraces = false) {is : Nat} {text : String} (hstr : ∃ q, vk_R "Prorates" is text q s)
    (d0 : decode cc pc = .ok (.new 140, 3)) (d3 : decode cc (pc + 3) = .ok (.dup, 1)) (d4 : decode cc (pc + 4) = .ok (.ldc is, 2)) (d6 : decode cc (pc + 6) = .ok (.invokespecial 144, 3)) (d9 : decode cc (pc + 9) = .ok (.athrow, 1))
    (hno : ∀ x ∈ c.exceptionTable.toList, False) (hR : 5 < R.frames ∧ (st.map fun v => v.category).sum + 82 ≤ R.locals ∧ kc + 1 ≤ R.cells ∧ ks + 6 ≤ R.slots) {mc ms : Nat} {XC : String → State → State → Prop} (hx : ∀ t : State, Hd E (nF σ) t.heap → XC kyI s t) (hc : kc + 1 ≤ mc ∧ ks + 6 ≤ ms) :
    X E p l e R s m args below meth c (vx_MQ below Qc XC args s mc ms (eF E)) nL kc ks σ pc L st := by
  obtain ⟨sa, hstr⟩ := hstr
  intro H locs ls hH hlo hL
  refine ky_throw (own := "Prorates") (cls := kyI) (names := kyN) (ik := 140) (ic := 144) C.1 C.2.1 hl ky_i0 ky_i1 ky_i2 ky_i5 (A := eF E) C.2.2.2.1 (by decide +kernel) (by decide +kernel) (C.2.2.2.2.1 _ (tG 1171 (by decide +kernel) rfl)) (C.2.2.2.2.1 _ (tG 195 (by decide +kernel) rfl)) hstr
    (vx_hat (fun w hw => C.2.2.2.2.1 _ (ky_inT ky_posI w hw)) ky_badI (hV.bad (Or.inl rfl))) (by decide +kernel) (low_Zq hH hV.1) (low_Zq hH hV.2.1) (hL.1.trans C.2.2.1.symm) d0 d3 d4 d6 d9 (fun x hx => (hno x hx).elim) hR.1 hR.2.1 hR.2.2.1 hR.2.2.2 C.2.2.2.2.2.2 (fun t hv hz hq => hx t (hH.ext hz hq)) hlo hc.1 hc.2
theorem x_throwE (C : Cx E p s m args meth c "Prorates" cc nL) (hV : KV E s) (hl : l.stackTraces = false) {is : Nat} {text : String} (hstr : ∃ q, vk_R "Prorates" is text q s)
    (d0 : decode cc pc = .ok (.new 147, 3)) (d3 : decode cc (pc + 3) = .ok (.dup, 1)) (d4 : decode cc (pc + 4) = .ok (.ldc is, 2)) (d6 : decode cc (pc + 6) = .ok (.invokespecial 151, 3)) (d9 : decode cc (pc + 9) = .ok (.athrow, 1))
    (hno : ∀ x ∈ c.exceptionTable.toList, False) (hR : 5 < R.frames ∧ (st.map fun v => v.category).sum + 82 ≤ R.locals ∧ kc + 1 ≤ R.cells ∧ ks + 6 ≤ R.slots) {mc ms : Nat} {XC : String → State → State → Prop} (hx : ∀ t : State, Hd E (nF σ) t.heap → XC kyE s t) (hc : kc + 1 ≤ mc ∧ ks + 6 ≤ ms) :
    X E p l e R s m args below meth c (vx_MQ below Qc XC args s mc ms (eF E)) nL kc ks σ pc L st := by
  obtain ⟨sa, hstr⟩ := hstr
  intro H locs ls hH hlo hL
  refine ky_throw (own := "Prorates") (cls := kyE) (names := kyN) (ik := 147) (ic := 151) C.1 C.2.1 hl ky_e0 ky_e1 ky_e2 ky_e5 (A := eF E) C.2.2.2.1 (by decide +kernel) (by decide +kernel) (C.2.2.2.2.1 _ (tG 1238 (by decide +kernel) rfl)) (C.2.2.2.2.1 _ (tG 196 (by decide +kernel) rfl)) hstr
    (vx_hat (fun w hw => C.2.2.2.2.1 _ (ky_inT ky_posE w hw)) ky_badE (hV.bad (Or.inr rfl))) (by decide +kernel) (low_Zq hH hV.1) (low_Zq hH hV.2.1) (hL.1.trans C.2.2.1.symm) d0 d3 d4 d6 d9 (fun x hx => (hno x hx).elim) hR.1 hR.2.1 hR.2.2.1 hR.2.2.2 C.2.2.2.2.2.2 (fun t hv hz hq => hx t (hH.ext hz hq)) hlo hc.1 hc.2
/-- the end of a method that answers (first 0) or throws (first 1 or 2) -/
def QdV (E : Ev) (r : Nat × Int32) (σ' : Sg) : Array Value → State → Outcome → State → Prop := fun _ _ o t => r.1 = 0 ∧ o = .returned (some (.int r.2)) ∧ Hd E σ' t.heap ∧ KU E t ∧ KV E t
def XdV (E : Ev) (r : Nat × Int32) (σ' : Sg) : String → State → State → Prop := fun x _ t => ((r.1 = 1 ∧ x = kyI) ∨ (r.1 = 2 ∧ x = kyE)) ∧ Hd E (nF σ') t.heap
def HV (E : Ev) (l : Launch) (s : State) (meth : Method) (c : Code) : Prop := meth.sig.returnType = some .int ∧ KV E s ∧ l.stackTraces = false ∧ ∀ x ∈ c.exceptionTable.toList, False
abbrev YV (E : Ev) (p : Program) (l : Launch) (e : Env) (R : Room) (s : State) (m : MethodId) (args : Array Value) (below : List Frame) (meth : Method) (c : Code) (r : Nat × Int32) (σ' : Sg) (nL kc ks : Nat) (σ : Sg) (pc : Nat) (L : List (Option Value)) (st : List Value) : Prop :=
  X E p l e R s m args below meth c (vx_MQ below (QdV E r σ') (XdV E r σ') args s 1 6 (eF E)) nL kc ks σ pc L st
theorem x_retV {own : String} (C : Cx E p s m args meth c own cc nL) (hr : HV E l s meth c) {v : Int32} (hk : kc ≤ 1 ∧ ks ≤ 6) (hd : decode cc pc = .ok (.ireturn, 1)) : YV E p l e R s m args below meth c (0, v) σ nL kc ks σ pc L [.int v] := fun H locs ls hH hlo hL =>
  W.widen hk.1 hk.2 (vx_ret (W.iret C.1 C.2.1 hr.1 (fun t ht hw => ⟨rfl, rfl, by rw [ht]; exact hH, C.2.2.2.2.2.1.warm hw, hr.2.1.warm hw⟩) hlo hd C.2.2.2.2.2.2))
end XT
/-- a method's contract that may throw, for one start and one end -/
def MtV (E : Ev) (l : Launch) (y : MethodName) (b : ByteArray) (n h : Nat) (vs : List Value) (σ : Sg) (r : Nat × Int32) (σ' : Sg) : Prop :=
  vx_Met l y (wsA y b n (some .int)) (rmA h 1 6) (PdV E vs σ) (QdV E r σ') (XdV E r σ') 1 6 (eF E)
theorem MtV.ofX {E : Ev} {l : Launch} {σ : Sg} {y : MethodName} {b : ByteArray} {n h : Nat} {vs : List Value} {r : Nat × Int32} {σ' : Sg} (hf : l.stackTraces = false) (hy : plainName y.cls = true) (hn : (lg_sl vs).length ≤ n) {L0 : List (Option Value)} (hL0 : ∀ (i : Nat) (v : Value), L0[i]? = some (some v) → (i, v) ∈ lv_args 0 vs)
    (body : ∀ (p : Program) (e : Env) (s : State) (m : MethodId) (args : Array Value) (below : List Frame) (meth : Method) (c : Code), Cx E p s m args meth c y.cls b n → HV E l s meth c → YV E p l e (rmA h 1 6) s m args below meth c r σ' n 0 0 σ 0 L0 []) : MtV E l y b n h vs σ r σ' := by
  refine vx_ofW (cc := b) (maxL := n) (ret := some .int) hy rfl ?_
  intro p e s m args below meth c s₁ B hml hno hP
  obtain ⟨⟨rfl, hH, hU⟩, hV⟩ := hP
  have hts : ∀ w ∈ tblG, w.before vs.toArray s = true := fun w hw => atoms_spec (ws := wsA y b n (some .int)) B.pre w (List.mem_cons_of_mem _ hw)
  have hown : s.vm.findClass y.cls = some m.cls := findClass_of_methodNamed B.named
  have hl := lv_entry vs hn
  have hx := body p e s m vs.toArray below meth c ⟨B.exec, B.bytes, hml, hown, hts, hU, B.notSynchronized⟩ ⟨B.returns, hV, hf, hno⟩ s.heap [] _ hH (fun q hq => by cases hq) (xL.of hl hL0)
  rw [lg_entry_eq]
  exact hx

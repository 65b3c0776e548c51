/-! THE LAW'S TWO METHODS THAT CATCH -/
def lwH : List (Nat × Nat × Nat × Nat) := [(0, 10, 13, 13), (0, 10, 17, 15)]
def wsL (y : MethodName) (b : ByteArray) (n : Nat) : List Cond := .codeWith y b n (some .int) lwH :: tblG
def QdL (E : Ev) (r : Int32) (σ' : Sg) : Array Value → State → Outcome → State → Prop := fun _ _ o t => o = .returned (some (.int r)) ∧ Hd E σ' t.heap ∧ KU E t ∧ KV E t
def MtL (E : Ev) (l : Launch) (y : MethodName) (b : ByteArray) (n h : Nat) (vs : List Value) (σ : Sg) (r : Int32) (σ' : Sg) : Prop :=
  vx_Met l y (wsL y b n) (rmA h 1 6) (PdV E vs σ) (QdL E r σ') (fun _ _ _ => False) 1 6 (eF E)
def HL (E : Ev) (s : State) (meth : Method) (c : Code) : Prop := meth.sig.returnType = some .int ∧ KV E s ∧ c.exceptionTable.toList = [⟨0, 10, 13, 13⟩, ⟨0, 10, 17, 15⟩]
theorem MtL.ofX {E : Ev} {l : Launch} {σ : Sg} {y : MethodName} {b : ByteArray} {n h : Nat} {vs : List Value} {r : Int32} {σ' : Sg} (hy : plainName y.cls = true) (hn : (lg_sl vs).length ≤ n) {L0 : List (Option Value)} (hL0 : ∀ (i : Nat) (v : Value), L0[i]? = some (some v) → (i, v) ∈ lv_args 0 vs)
    (body : ∀ (p : Program) (e : Env) (s : State) (m : MethodId) (args : Array Value) (below : List Frame) (meth : Method) (c : Code), Cx E p s m args meth c y.cls b n → HL E s meth c →
      X E p l e (rmA h 1 6) s m args below meth c (vx_MQ below (QdL E r σ') (fun _ _ _ => False) args s 1 6 (eF E)) n 0 0 σ 0 L0 []) : MtL E l y b n h vs σ r σ' := by
  refine vx_ofWH (cc := b) (maxL := n) (ret := some .int) (hh := lwH) hy rfl ?_
  intro p e s m args below meth c s₁ B hml hP
  obtain ⟨⟨rfl, hH, hU⟩, hV⟩ := hP
  have hts : ∀ w ∈ tblG, w.before vs.toArray s = true := fun w hw => atoms_spec (ws := wsL y b n) B.pre w (List.mem_cons_of_mem _ hw)
  have hown : s.vm.findClass y.cls = some m.cls := findClass_of_methodNamed B.named
  have hl := lv_entry vs hn
  have htb := vx_table (x := y) B (atoms_spec (ws := wsL y b n) B.pre _ List.mem_cons_self)
  have hx := body p e s m vs.toArray below meth c ⟨B.exec, B.bytes, hml, hown, hts, hU, B.notSynchronized⟩ ⟨B.returns, hV, htb⟩ s.heap [] _ hH (fun q hq => by cases hq) (xL.of hl hL0)
  rw [lg_entry_eq]
  exact hx
section XL
variable {E : Ev} {p : Program} {l : Launch} {e : Env} {R : Room} {s : State} {m : MethodId} {args : Array Value} {below : List Frame} {meth : Method} {c : Code} {Q : State → Prop} {own : String} {cc : ByteArray} {nL kc ks : Nat} {σ : Sg} {pc : Nat} {L : List (Option Value)} {st : List Value}
theorem x_retL (C : Cx E p s m args meth c own cc nL) (hr : HL E s meth c) {v : Int32} (hk : kc ≤ 1 ∧ ks ≤ 6) (hd : decode cc pc = .ok (.ireturn, 1)) :
    X E p l e R s m args below meth c (vx_MQ below (QdL E v σ) (fun _ _ _ => False) args s 1 6 (eF E)) nL kc ks σ pc L [.int v] := fun H locs ls hH hlo hL =>
  W.widen hk.1 hk.2 (vx_ret (W.iret C.1 C.2.1 hr.1 (fun t ht hw => ⟨rfl, by rw [ht]; exact hH, C.2.2.2.2.2.1.warm hw, hr.2.1.warm hw⟩) hlo hd C.2.2.2.2.2.2))
theorem x_callVX (C : Cx E p s m args meth c own cc nL) (hV : KV E s) {idx ci a N n h k : Nat} {y : MethodName} {b : ByteArray} {T : u_T} {As rest : List Value} {r : Nat × Int32} {σ' : Sg} {st0 : List Value} (hM : MtV E l y b n h (.ref (ad E a) :: As) σ r σ') (hc : clK ci y.cls T N) (hk : ckO σ ci a = true)
    (hl : Cond.methodLink own idx y ∈ tblG) (hcode : Cond.code y b n (some .int) ∈ tblG) (hin : Cond.instanceMethod y ∈ tblG) (hpl : Cond.initialized y.cls ∈ tblG ∧ (y.cls ≠ "java/lang/invoke/MethodHandle" ∧ y.cls ≠ "java/lang/invoke/VarHandle") ∧ (parseMethodDescriptor y.desc).map (fun d => d.parameters.length) = some k) (hse : Cond.selects y.cls y y ∈ tblG)
    (hst : st0 = As.reverse ++ .ref (ad E a) :: rest) (hk2 : As.length = k) (hW : (rest.map fun v => v.category).sum ≤ 8)
    (hR : h + 1 ≤ R.frames ∧ 8 + (n + 11) + 40 * h ≤ R.locals ∧ kc + 1 ≤ R.cells ∧ ks + 6 ≤ R.slots) (hd : decode cc pc = .ok (.invokevirtual idx, 3))
    (kk : r.1 = 0 → X E p l e R s m args below meth c Q nL (kc + 1) (ks + 6) σ' (pc + 3) L (.int r.2 :: rest))
    (kx : ∀ x : String, (r.1 = 1 ∧ x = kyI) ∨ (r.1 = 2 ∧ x = kyE) → ∀ (H : Heap) (locs : List Loc) (ls : Array Slot) (q : Addr) (ce : Cell), Hd E (nF σ') H → (∀ z ∈ locs, eF E z.base) → xL ls nL L → H[q]? = some ce → ce.vm = .none → s.vm.findClass x = some ce.cls → vx_W p l e R s m args below meth c H locs (kc + 1) (ks + 6) Q (F0 m pc ls rest) q) :
    X E p l e R s m args below meth c Q nL kc ks σ pc L st0 := by
  intro H locs ls hH hlo hL T hT Xs
  have hp : PreV s H y.cls (ad E a) (PdV E (.ref (ad E a) :: As) σ) As := ⟨PdV.blind, xrecv_of C hH hc hk, fun U hU hw => ⟨⟨rfl, by rw [hU]; exact hH, C.2.2.2.2.2.1.warm hw⟩, hV.warm hw⟩⟩
  have hlen2 : ∀ sig, parseMethodDescriptor y.desc = some sig → k = sig.parameters.length := fun sig h => by
    have h9 := hpl.2.2
    rw [h] at h9
    exact (Option.some.inj h9).symm
  have hrun := vx_runV (below := below) (cells := kc) (slots := ks) (locs := locs) (meth := meth) (e := e) ⟨C.1, C.2.1, C.2.2.1, C.2.2.2.1, C.2.2.2.2.1⟩ hM ⟨⟨rfl, rfl, hR.1, hR.2.1, tbl_ws C hcode, List.mem_cons_self, C.2.2.2.2.1 _ hcode, C.2.2.2.2.1 _ hpl.1, hpl.2.1, hlen2, C.2.2.2.2.1 _ hl⟩, C.2.2.2.2.1 _ hin, C.2.2.2.2.1 _ hse⟩ hp (g := F0 m pc ls st0) rfl hk2 hL.1 hst (lv_room hW) hd ⟨hR.2.2.1, hR.2.2.2⟩
  rcases hrun T hT Xs with ⟨v, st₀, t, T', L1, h0, X', hL1, e1, e2, ⟨q1, q2, q3, -⟩, step⟩ | ⟨q, st₀, t, T', L1, x, ce, h0, X', hL1, e1, e2, ⟨q1, q3⟩, hce, hcv, hcl, step⟩
  · cases q2
    obtain ⟨t2, a1, b1⟩ := kk q1 T'.heap (locs ++ L1) ls (by rw [e1]; exact q3) (fun q hq => (List.mem_append.mp hq).elim (hlo q) (hL1 q)) hL T' rfl X'
    exact ⟨t2, step t2 a1, b1⟩
  · obtain ⟨t2, a1, b1⟩ := kx x q1 T'.heap (locs ++ L1) ls q ce (by rw [e1]; exact q3) (fun q hq => (List.mem_append.mp hq).elim (hlo q) (hL1 q)) hL (by rw [e1]; exact hce) hcv hcl T' rfl X'
    exact ⟨t2, step.trans a1, b1⟩
end XL
def DL_proviso (l0 : Nat) (l1 l2 : Int32) (l3 : Nat) (σ : Sg) : Option (Int32 × Sg) :=
  chk (ckO σ 5 l0) <|
  bnd (DX7_proviso l0 l1 l2 σ) fun r1 σ1 =>
  if r1.1 = 0 then
    chk (ckJ σ1 l3 (0 : Int32)) <|
    wlet (wJ σ1 l3 (0 : Int32).toNatClampNeg r1.2.toInt64) fun σ2 =>
    some ((0 : Int32), σ2)
  else if r1.1 = 1 then some ((1 : Int32), nF σ1)
  else if r1.1 = 2 then some ((2 : Int32), nF σ1)
  else none
theorem mL_proviso (E : Ev) (l : Launch) (hf : l.stackTraces = false) {l0 : Nat} {l1 l2 : Int32} {l3 : Nat} {σ : Sg} {r : Int32} {σ' : Sg} (h : DL_proviso l0 l1 l2 l3 σ = some (r, σ')) : MtL E l yL_proviso cL_proviso 5 8 [.ref (ad E l0), .int l1, .int l2, .ref (ad E l3)] σ r σ' := by
  refine MtL.ofX (by decide) (Nat.le_of_ble_eq_true rfl) (L0 := [some (.ref (ad E l0)), some (.int l1), some (.int l2), some (.ref (ad E l3)), none]) (xEntN_ok [.ref (ad E l0), .int l1, .int l2, .ref (ad E l3)] 5) (fun p e s m args below meth c C hr => ?_)
  unfold DL_proviso at h
  obtain ⟨k2, h⟩ := chk_s h
  obtain ⟨r1, σ1, k, h⟩ := bnd_s h
  refine x_aload_n (pc := 0) C dL_proviso_0 rfl rfl ?_
  refine x_iconst (v := 0) (pc := 1) C dL_proviso_1 (by decide) ?_
  refine x_aload_n (pc := 2) C dL_proviso_2 rfl rfl ?_
  refine x_iload_n (pc := 3) C dL_proviso_3 rfl rfl ?_
  refine x_iload_n (pc := 4) C dL_proviso_4 rfl rfl ?_
  refine x_callVX (k := 2) (pc := 5) C hr.2.1 (mX7_proviso E l hf k) cl5 k2 (tG 1167 (by decide +kernel) rfl) (tG 1170 (by decide +kernel) rfl) (tG 1168 (by decide +kernel) rfl) ⟨tG 177 (by decide +kernel) rfl, by decide, by decide +kernel⟩ (tG 1169 (by decide +kernel) rfl) rfl rfl (Nat.le_of_ble_eq_true rfl) ⟨Nat.le_of_ble_eq_true rfl, Nat.le_of_ble_eq_true rfl, Nat.le_of_ble_eq_true rfl, Nat.le_of_ble_eq_true rfl⟩ dL_proviso_5 (fun h0 => ?_) (fun x hx H locs ls q ce hH hlo hL hce hv hcl => ?_)
  · rw [if_pos h0] at h
    obtain ⟨k, h⟩ := chk_s h
    refine x_i2l (pc := 8) C dL_proviso_8 ?_
    obtain ⟨σ2, e1, h⟩ := wlet_s h
    refine x_last (pc := 9) C k dL_proviso_9 (x_eq e1 ?_)
    refine x_goto (pc := 10) (tgt := 21) C dL_proviso_10 (by decide) ?_
    refine x_iconst (v := 0) (pc := 21) C dL_proviso_21 (by decide) ?_
    cases h
    exact x_retL (pc := 22) C hr ⟨Nat.le_of_ble_eq_true rfl, Nat.le_of_ble_eq_true rfl⟩ dL_proviso_22
  · rcases hx with ⟨h1, rfl⟩ | ⟨h2, rfl⟩
    · rw [if_neg (by omega), if_pos h1] at h
      refine vx_catch (name := kyI) C.2.2.2.1 [] ⟨0, 10, 13, 13⟩ [⟨0, 10, 17, 15⟩] hr.2.2 (fun z hz => nomatch hz) (by decide) (by decide) (C.2.2.2.2.1 _ (tG 1165 (by decide +kernel) rfl)) (va_Nw.use rfl hr.2.1.2.2.2.2.2.2.2.2.1) hce hv hcl ?_
      have hX : X E p l e (rmA 8 1 6) s m args below meth c (vx_MQ below (QdL E r σ') (fun _ _ _ => False) args s 1 6 (eF E)) 5 (0 + 1) (0 + 6) (nF σ1) 13 [some (.ref (ad E l0)), some (.int l1), some (.int l2), some (.ref (ad E l3)), none] [.ref q] := by
        refine x_astore (M := [some _, some _, some _, some _, some _]) (pc := 13) C dL_proviso_13 (by decide) rfl ?_
        refine x_iconst (v := 1) (pc := 15) C dL_proviso_15 (by decide) ?_
        cases h
        exact x_retL (pc := 16) C hr ⟨Nat.le_of_ble_eq_true rfl, Nat.le_of_ble_eq_true rfl⟩ dL_proviso_16
      exact hX H locs ls hH hlo hL
    · rw [if_neg (by omega), if_neg (by omega), if_pos h2] at h
      refine vx_catch (name := kyE) C.2.2.2.1 [⟨0, 10, 13, 13⟩] ⟨0, 10, 17, 15⟩ [] hr.2.2 (fun z hz => ?_) (by decide) (by decide) (C.2.2.2.2.1 _ (tG 1166 (by decide +kernel) rfl)) (va_Nw.use rfl hr.2.1.2.2.2.2.2.2.2.2.2.1) hce hv hcl ?_
      · rcases List.mem_cons.mp hz with rfl | hz
        · exact Or.inr ⟨by decide, kyI, C.2.2.2.2.1 _ (tG 1165 (by decide +kernel) rfl), hr.2.1.2.2.2.2.2.2.2.2.2.2⟩
        · cases hz
      have hX : X E p l e (rmA 8 1 6) s m args below meth c (vx_MQ below (QdL E r σ') (fun _ _ _ => False) args s 1 6 (eF E)) 5 (0 + 1) (0 + 6) (nF σ1) 17 [some (.ref (ad E l0)), some (.int l1), some (.int l2), some (.ref (ad E l3)), none] [.ref q] := by
        refine x_astore (M := [some _, some _, some _, some _, some _]) (pc := 17) C dL_proviso_17 (by decide) rfl ?_
        refine x_iconst (v := 2) (pc := 19) C dL_proviso_19 (by decide) ?_
        cases h
        exact x_retL (pc := 20) C hr ⟨Nat.le_of_ble_eq_true rfl, Nat.le_of_ble_eq_true rfl⟩ dL_proviso_20
      exact hX H locs ls hH hlo hL
def DL_ticket (l0 : Nat) (l1 l2 : Int32) (l3 : Nat) (σ : Sg) : Option (Int32 × Sg) :=
  chk (ckO σ 5 l0) <|
  bnd (DX7_ticket l0 l1 l2 σ) fun r1 σ1 =>
  if r1.1 = 0 then
    chk (ckJ σ1 l3 (0 : Int32)) <|
    wlet (wJ σ1 l3 (0 : Int32).toNatClampNeg r1.2.toInt64) fun σ2 =>
    some ((0 : Int32), σ2)
  else if r1.1 = 1 then some ((1 : Int32), nF σ1)
  else if r1.1 = 2 then some ((2 : Int32), nF σ1)
  else none
theorem mL_ticket (E : Ev) (l : Launch) (hf : l.stackTraces = false) {l0 : Nat} {l1 l2 : Int32} {l3 : Nat} {σ : Sg} {r : Int32} {σ' : Sg} (h : DL_ticket l0 l1 l2 l3 σ = some (r, σ')) : MtL E l yL_ticket cL_ticket 5 8 [.ref (ad E l0), .int l1, .int l2, .ref (ad E l3)] σ r σ' := by
  refine MtL.ofX (by decide) (Nat.le_of_ble_eq_true rfl) (L0 := [some (.ref (ad E l0)), some (.int l1), some (.int l2), some (.ref (ad E l3)), none]) (xEntN_ok [.ref (ad E l0), .int l1, .int l2, .ref (ad E l3)] 5) (fun p e s m args below meth c C hr => ?_)
  unfold DL_ticket at h
  obtain ⟨k2, h⟩ := chk_s h
  obtain ⟨r1, σ1, k, h⟩ := bnd_s h
  refine x_aload_n (pc := 0) C dL_ticket_0 rfl rfl ?_
  refine x_iconst (v := 0) (pc := 1) C dL_ticket_1 (by decide) ?_
  refine x_aload_n (pc := 2) C dL_ticket_2 rfl rfl ?_
  refine x_iload_n (pc := 3) C dL_ticket_3 rfl rfl ?_
  refine x_iload_n (pc := 4) C dL_ticket_4 rfl rfl ?_
  refine x_callVX (k := 2) (pc := 5) C hr.2.1 (mX7_ticket E l hf k) cl5 k2 (tG 1261 (by decide +kernel) rfl) (tG 1264 (by decide +kernel) rfl) (tG 1262 (by decide +kernel) rfl) ⟨tG 177 (by decide +kernel) rfl, by decide, by decide +kernel⟩ (tG 1263 (by decide +kernel) rfl) rfl rfl (Nat.le_of_ble_eq_true rfl) ⟨Nat.le_of_ble_eq_true rfl, Nat.le_of_ble_eq_true rfl, Nat.le_of_ble_eq_true rfl, Nat.le_of_ble_eq_true rfl⟩ dL_ticket_5 (fun h0 => ?_) (fun x hx H locs ls q ce hH hlo hL hce hv hcl => ?_)
  · rw [if_pos h0] at h
    obtain ⟨k, h⟩ := chk_s h
    refine x_i2l (pc := 8) C dL_ticket_8 ?_
    obtain ⟨σ2, e1, h⟩ := wlet_s h
    refine x_last (pc := 9) C k dL_ticket_9 (x_eq e1 ?_)
    refine x_goto (pc := 10) (tgt := 21) C dL_ticket_10 (by decide) ?_
    refine x_iconst (v := 0) (pc := 21) C dL_ticket_21 (by decide) ?_
    cases h
    exact x_retL (pc := 22) C hr ⟨Nat.le_of_ble_eq_true rfl, Nat.le_of_ble_eq_true rfl⟩ dL_ticket_22
  · rcases hx with ⟨h1, rfl⟩ | ⟨h2, rfl⟩
    · rw [if_neg (by omega), if_pos h1] at h
      refine vx_catch (name := kyI) C.2.2.2.1 [] ⟨0, 10, 13, 13⟩ [⟨0, 10, 17, 15⟩] hr.2.2 (fun z hz => nomatch hz) (by decide) (by decide) (C.2.2.2.2.1 _ (tG 1165 (by decide +kernel) rfl)) (va_Nw.use rfl hr.2.1.2.2.2.2.2.2.2.2.1) hce hv hcl ?_
      have hX : X E p l e (rmA 8 1 6) s m args below meth c (vx_MQ below (QdL E r σ') (fun _ _ _ => False) args s 1 6 (eF E)) 5 (0 + 1) (0 + 6) (nF σ1) 13 [some (.ref (ad E l0)), some (.int l1), some (.int l2), some (.ref (ad E l3)), none] [.ref q] := by
        refine x_astore (M := [some _, some _, some _, some _, some _]) (pc := 13) C dL_ticket_13 (by decide) rfl ?_
        refine x_iconst (v := 1) (pc := 15) C dL_ticket_15 (by decide) ?_
        cases h
        exact x_retL (pc := 16) C hr ⟨Nat.le_of_ble_eq_true rfl, Nat.le_of_ble_eq_true rfl⟩ dL_ticket_16
      exact hX H locs ls hH hlo hL
    · rw [if_neg (by omega), if_neg (by omega), if_pos h2] at h
      refine vx_catch (name := kyE) C.2.2.2.1 [⟨0, 10, 13, 13⟩] ⟨0, 10, 17, 15⟩ [] hr.2.2 (fun z hz => ?_) (by decide) (by decide) (C.2.2.2.2.1 _ (tG 1166 (by decide +kernel) rfl)) (va_Nw.use rfl hr.2.1.2.2.2.2.2.2.2.2.2.1) hce hv hcl ?_
      · rcases List.mem_cons.mp hz with rfl | hz
        · exact Or.inr ⟨by decide, kyI, C.2.2.2.2.1 _ (tG 1165 (by decide +kernel) rfl), hr.2.1.2.2.2.2.2.2.2.2.2.2⟩
        · cases hz
      have hX : X E p l e (rmA 8 1 6) s m args below meth c (vx_MQ below (QdL E r σ') (fun _ _ _ => False) args s 1 6 (eF E)) 5 (0 + 1) (0 + 6) (nF σ1) 17 [some (.ref (ad E l0)), some (.int l1), some (.int l2), some (.ref (ad E l3)), none] [.ref q] := by
        refine x_astore (M := [some _, some _, some _, some _, some _]) (pc := 17) C dL_ticket_17 (by decide) rfl ?_
        refine x_iconst (v := 2) (pc := 19) C dL_ticket_19 (by decide) ?_
        cases h
        exact x_retL (pc := 20) C hr ⟨Nat.le_of_ble_eq_true rfl, Nat.le_of_ble_eq_true rfl⟩ dL_ticket_20
      exact hX H locs ls hH hlo hL

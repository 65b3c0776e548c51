theorem wL_8 : Cond.classLink RL 8 RX7 ∈ tblG ∧ Cond.instantiable RX7 10 ∈ tblG ∧ Cond.initialized RX7 ∈ tblG := ⟨tG 197 (by decide +kernel) rfl, tG 198 (by decide +kernel) rfl, tG 177 (by decide +kernel) rfl⟩
theorem wL_21 : Cond.classLink RL 21 RX8 ∈ tblG ∧ Cond.instantiable RX8 58 ∈ tblG ∧ Cond.initialized RX8 ∈ tblG := ⟨tG 1271 (by decide +kernel) rfl, tG 1272 (by decide +kernel) rfl, tG 185 (by decide +kernel) rfl⟩
theorem cL_20 : cB RL 20 yX7_init cX7_init 1 none 0 := ⟨Or.inl (tG 199 (by decide +kernel) rfl), tG 201 (by decide +kernel) rfl, tG 177 (by decide +kernel) rfl, by decide +kernel, by decide +kernel⟩
theorem cL_23 : cB RL 23 yX8_init cX8_init 1 none 0 := ⟨Or.inl (tG 1273 (by decide +kernel) rfl), tG 1275 (by decide +kernel) rfl, tG 185 (by decide +kernel) rfl, by decide +kernel, by decide +kernel⟩
theorem nX7_init : Cond.instanceMethod yX7_init ∈ tblG := tG 200 (by decide +kernel) rfl
theorem nX8_init : Cond.instanceMethod yX8_init ∈ tblG := tG 1274 (by decide +kernel) rfl
/-! THE CLAIM OUT OF ONE WALK OF THE LAW'S BODY. Your part is whole_start (and what it stands on); all else here is the same for every law, but numbers. -/
def R_law : String := "ProratesLaw"
def lw_P (b : Addr) (xs : List Int32) (args : Array Value) (s : State) : Prop := args = #[.ref b] ∧ s.IntsAt b xs ∧ xs.length ≤ 3072 ∧ (Jvm.Cond.and given_1 narrow_1).before args s = true
def lw_Q (_ : Array Value) (s : State) (o : Outcome) (t : State) : Prop := o = .returned (some (.int 1)) ∧ Framed s o t [] 601024 7293034
def lw_Z (below : List Frame) (a : Array Value) (s : State) : State → Prop := fun t => ∃ o, t.status = .running ∧ Ended t below o ∧ lw_Q a s o t
/-- the law's own end, with 1 on the stack, nothing written that was there before, its room as the claim has it -/
theorem lw_ret {p : Program} {l : Launch} {e : Env} {s : State} {m : MethodId} {below : List Frame} {meth : Method} {c : Code} {b : Nat} (hx : p.tables.exec = Jvm.exec) (hb : c.code = code) (hr : meth.sig.returnType = ret) (hlocks : meth.locks = false) {pc : Nat} {H : Heap} {ls : Array Slot} (hdg : decode code pc = .ok (.ireturn, 1)) : W p l e room_1 s m #[Value.ref b] below meth c H [] 601024 7293034 (lw_Z below #[Value.ref b] s) (F0 m pc ls [.int 1]) := by
  intro T hT X
  obtain ⟨fs, hret, hrun, hended, hW, hframe⟩ := X.leave (v := some (.int 1)) (hlocks := hlocks) (fun h => by rw [hr] at h; cases h)
  have hmeth' : T.vm.method? m = some meth := X.method'
  refine ⟨T.setFrames fs, ?_, .returned (some (.int 1)), hrun, hended, rfl, ⟨_, rfl⟩, hW, hframe⟩
  jvm_step X.here [X.here.top, hx, hb, hdg, hmeth', hr, ret, narrow_b1]
  (try refine ⟨rfl, ?_⟩); (try refine ⟨rfl, ?_⟩)
  first | (intro acts; rw [hret _ acts rfl rfl rfl]) | rw [hret _ _ rfl rfl rfl]
  exact Steps.refl _
/-- what holds at the law's entry: the machine, the code, the tables' words (any of lw_tbl by 'hts w (by decide +kernel)'), the script of L ints xs at the cell b, what the Statement gives of the start (any of its parts by flat_of_before) -/
def lw_At (p : Program) (s : State) (m : MethodId) (meth : Method) (c : Code) (b L : Nat) (xs : Nat → Int32) : Prop :=
  p.tables.exec = Jvm.exec ∧ c.code = code ∧ meth.sig.returnType = ret ∧ c.maxLocals = 7 ∧ s.vm.findClass R_law = some m.cls ∧ (∀ w ∈ lw_tbl, w.before #[Value.ref b] s = true) ∧ va_X b L xs s s.heap ∧ b < s.heap.size ∧ meth.locks = false ∧ (Jvm.Cond.and given_1 narrow_1).before #[Value.ref b] s = true
/-- YOUR PART: from the entry, for every script of at most 3072 ints, the law comes to its end with true ('hflags': the launch's flags, for a law that throws: no stack traces) -/
theorem whole_start {p : Program} {e : Env} {s : State} {m : MethodId} {below : List Frame} {meth : Method} {c : Code} (l : Launch) (hflags : l.flags = flags0) {b L : Nat} {xs : Nat → Int32} (hL : L ≤ 3072) (C0 : lw_At p s m meth c b L xs) : W p l e room_1 s m #[Value.ref b] below meth c s.heap [] 0 0 (lw_Z below #[Value.ref b] s) (entryFrame m ([Value.ref b] : List Value).toArray 7) := by
  have hf : l.stackTraces = false := by
    unfold Launch.stackTraces
    rw [hflags]
    decide +kernel
  obtain ⟨c1, c2, c3, c4, c5, c6, c7, c8, c9, c10⟩ := C0
  obtain ⟨E, xH, x24, xL', hU, hV⟩ := kn_all c6 (fun w hw => flat_of_before _ c10 w hw) c7 c8
  have hts : ∀ w ∈ tblG, w.before #[Value.ref b] s = true := fun w h => c6 w (List.mem_filter.mp h).1
  have C : Cx E p s m #[Value.ref b] meth c RL cL_law 7 := ⟨c1, c2, c4, c5, hts, hU, c9⟩
  obtain ⟨sg5, e8, f8⟩ := sg_end
  have n5 : gN sg5 = 82 := f8.2.2.1.trans g0_n.1
  have n5f : gF sg5 = true := f8.2.2.2.trans g0_n.2
  have hJ : Jx (mk1 sg5) := ⟨3, W0, fun _ => 0, fun _ => 0, 0, 0, jst_first f8 rfl⟩
  have hend : ∀ (kc ks : Nat) (σ : Sg) (L1 : List (Option Value)), kc ≤ 601024 → ks ≤ 7293034 → X E p l e room_1 s m #[Value.ref b] below meth c (lw_Z below #[Value.ref b] s) 7 kc ks σ 1575 L1 [.int 1] := by
    intro kc ks σ L1 h1 h2 H locs ls hH hlo hL1
    refine va_forget (fun q hq => ?_) ?_
    · have := hlo q hq
      unfold eF at this
      rw [xH] at this
      exact this
    refine W.widen (k := 601024) (n := 7293034) h1 h2 ?_
    exact lw_ret c1 c2 c3 c9 dL_law_1575
  have hX : X E p l e room_1 s m #[Value.ref b] below meth c (lw_Z below #[Value.ref b] s) 7 0 0 sg0 0 [some (.ref (eX E 24)), none, none, none, none, none, none] [] := by
    have k1 : ckW sg0 1 5 0 = true := by decide +kernel
    have k3 : ckW sg2 1 6 0 = true := by decide +kernel
    have k5 : ckW sg5 4 1 0 = true := by
      unfold ckW
      rw [n5, n5f]
      rfl
    have g0 : gN sg0 = 1 := rfl
    have g2 : gN sg2 = 51 := by decide +kernel
    refine x_new (pc := 0) C cl5 wL_8.1 wL_8.2.1 wL_8.2.2 df5 k1 ⟨Nat.le_of_ble_eq_true rfl, Nat.le_of_ble_eq_true rfl⟩ dL_law_0 ?_
    rw [g0]
    refine x_dup (pc := 3) C dL_law_3 rfl ?_
    refine x_callI0 (pc := 4) C (mX7_init E l e7_e) cL_20 rfl nX7_init rfl rfl (Nat.le_of_ble_eq_true rfl) ⟨Nat.le_of_ble_eq_true rfl, Nat.le_of_ble_eq_true rfl, Nat.le_of_ble_eq_true rfl, Nat.le_of_ble_eq_true rfl⟩ dL_law_4 ?_
    refine x_astore_n (M := [some _, some _, none, none, none, none, none]) (pc := 7) C dL_law_7 rfl (by decide) rfl ?_
    refine x_new (pc := 8) C cl6 wL_21.1 wL_21.2.1 wL_21.2.2 df6 k3 ⟨Nat.le_of_ble_eq_true rfl, Nat.le_of_ble_eq_true rfl⟩ dL_law_8 ?_
    rw [g2]
    refine x_dup (pc := 11) C dL_law_11 rfl ?_
    refine x_callI0 (pc := 12) C (mX8_init E l e8) cL_23 rfl nX8_init rfl rfl (Nat.le_of_ble_eq_true rfl) ⟨Nat.le_of_ble_eq_true rfl, Nat.le_of_ble_eq_true rfl, Nat.le_of_ble_eq_true rfl, Nat.le_of_ble_eq_true rfl⟩ dL_law_12 ?_
    refine x_astore_n (M := [some _, some _, some _, none, none, none, none]) (pc := 15) C dL_law_15 rfl (by decide) rfl ?_
    refine x_iconst (v := 1) (pc := 16) C dL_law_16 (by decide) ?_
    refine x_newJ (N := 1) (pc := 17) C aaJ (by decide) (by decide) k5 (by decide) ⟨Nat.le_of_ble_eq_true rfl, Nat.le_of_ble_eq_true rfl⟩ dL_law_17 ?_
    rw [n5]
    refine x_astore_n (M := [some _, some _, some _, some _, none, none, none]) (pc := 19) C dL_law_19 rfl (by decide) rfl ?_
    refine x_iconst (v := 0) (pc := 20) C dL_law_20 (by decide) ?_
    refine x_istore (M := [some _, some _, some _, some _, some _, none, none]) (pc := 21) C dL_law_21 (by decide) rfl ?_
    have hlp := law_loop C hV hf (by rw [xL']; exact hL) hend 512 0 (0 + 1 + 259 + 1 + 30 + 1) (0 + 10 + 3645 + 58 + 6071 + 1) (mk1 sg5) (by rw [xL']; omega) (by omega) (by omega) (by omega) hJ
    rw [show nI (6 * 0) = (0 : Int32) by decide] at hlp
    exact hlp
  have hl := lv_entry ([Value.ref b]) (n := 7) (Nat.le_of_ble_eq_true rfl)
  have hH : Hd E sg0 s.heap := by
    refine ⟨fun q _ => by rw [xH], by rw [xH]; exact Nat.le_refl _, fun _ => by rw [xH]; rfl, by decide, by decide, fun a h0 h1 => absurd h1 (by show ¬ a < 1; omega)⟩
  have hz := hX s.heap [] _ hH (fun q hq => by cases hq) (xL.of hl (by rw [x24]; exact xEntN_ok [.ref b] 7))
  rw [lg_entry_eq]
  exact hz
set_option maxHeartbeats 4000000 in
theorem lw_walk (l : Launch) (hflags : l.flags = flags0) (b : Addr) (xs : List Int32) : MetFree l x (headSpec (Jvm.Cond.code x code maxLocals ret :: tables_1) room_1) (lw_P b xs) (fun _ _ _ _ _ => True) lw_Q := by
  refine MetFree.of_bodyS (code := code) (maxLocals := maxLocals) (ret := ret) (by decide) ?_ ?_
  · intro args s m h hn
    obtain ⟨meth, c, h1, h2, h3, h4, h5, h6, -, -⟩ := Cond.code_spec hn (atoms_spec (ws := Jvm.Cond.code x code maxLocals ret :: tables_1) h _ List.mem_cons_self)
    exact ⟨meth, c, h1, h2, h3, h4, h5, h6⟩
  · intro p e s m args below meth c s₁ B hml0 hP _
    obtain ⟨rfl, hx, hbd, hgv⟩ := hP
    obtain ⟨scr, harrAt, hlist, hof, hsmall⟩ := hx
    obtain ⟨hcb, hkn, -, -⟩ := State.arrayAt?_spec harrAt
    have hown : s.vm.findClass R_law = some m.cls := findClass_of_methodNamed B.named
    have hts0 : ∀ c ∈ (Jvm.Cond.code x code maxLocals ret :: tables_1), c.before #[Value.ref b] s = true := atoms_spec (ws := Jvm.Cond.code x code maxLocals ret :: tables_1) B.pre
    have hts : ∀ w ∈ lw_tbl, w.before #[Value.ref b] s = true := k2_hts_sels lw_privs (fun w hw => hts0 w (List.mem_cons_of_mem _ hw)) lw_privs_ok
    have hml : c.maxLocals = 7 := B.maxLocals_eq (hts0 _ List.mem_cons_self)
    have X₀ : Stand p l e room_1 s m #[Value.ref b] below meth c s₁ [] 0 0 := Stand.of_body B
    have hh0 : s₁.heap = s.heap := by rw [B.state]; rfl
    have hsz : scr.slots.size = xs.length := by rw [← Array.length_toList, hlist, List.length_map]
    have hval : ∀ j : Nat, j < xs.length → scr.slots[j]? = some (.int (xs.getD j 0)) := fun j hj => by
      rw [← Array.getElem?_toList, hlist]
      simp [hj]
    have hbl : b < s.heap.size := (Array.getElem?_eq_some_iff.mp hcb).1
    have hX : va_X b xs.length (fun j => xs.getD j 0) s s.heap := ⟨scr, hcb, hof, hkn, hsz, hval⟩
    have K : W p l e room_1 s m #[Value.ref b] below meth c s₁.heap [] 0 0 (lw_Z below #[Value.ref b] s) (entryFrame m ([Value.ref b] : List Value).toArray 7) := by
      rw [hh0]
      exact whole_start l hflags hbd ⟨B.exec, B.bytes, B.returns, hml, hown, hts, hX, hbl, B.notSynchronized, hgv⟩
    obtain ⟨t, a1, o, b1, b2, b3⟩ := K s₁ rfl X₀
    exact ⟨t, o, a1, b1, b2, b3⟩
theorem lw_pre_spec {args : Array Value} {s : State} (h : (Jvm.Cond.and given_1 narrow_1).before args s = true) (hr : rest_1_c.before args s = true) : ∃ (b : Addr) (xs : List Int32), lw_P b xs args s := by
  have hs := flat_of_before _ h
  have hq := flat_of_before _ hr
  have hc : (Cond.count 1).before args s = true := hs _ (by decide +kernel)
  have harr : (Cond.arrayOf (.arg 0) .int).before args s = true := hs _ (by decide +kernel)
  have hle : (Cond.le (.length (.arg 0)) (.int 3072)).before args s = true := hs _ (by decide +kernel)
  have hlen : (Cond.isInt (.length (.arg 0))).before args s = true := hq _ (by decide +kernel)
  have hall : (Cond.all (.arg 0) (.isInt (.elem (.arg 0) (.index 0)))).before args s = true := hq _ (by decide +kernel)
  obtain ⟨b, xs, hb, hx⟩ := State.ints_of_pre rfl harr hlen hall
  have hsm : xs.length < 2 ^ 31 := hx.choose_spec.2.2.2
  have hev : (Term.length (.arg 0)).eval args s none [] s = some (.int xs.length.toInt32) := hx.length_eval hb
  have hv := Cond.le_ints hev (show (Term.int 3072).eval args s none [] s = some (.int 3072) from rfl)
  have hd : xs.length.toInt32 ≤ 3072 := by
    simpa [Cond.before, Cond.holds, hv] using hle
  have hN : xs.length ≤ 3072 := (Int32.ofNat_le_ofNat hsm (by decide)).mp (show Int32.ofNat xs.length ≤ Int32.ofNat 3072 from hd)
  exact ⟨b, xs, Cond.one_arg hc (show args[0]? = some (.ref b) from hb), hx, hN, h⟩
theorem lw_comes (l : Launch) (hflags : l.flags = flags0) : Comes l x (Jvm.Cond.code x code maxLocals ret :: tables_1) room_1 (fun tb e args s => Calls_1 tb e args s ∧ rest_1 tb e args s ∧ Pre_1 tb e args s)
    (fun _ _ args s o t => lw_Q args s o t) := by
  intro p e ha hc hk s m args below hf hfit hheap happ hpre
  obtain ⟨b, xs, hP⟩ := lw_pre_spec hpre.2.2 hpre.2.1
  obtain ⟨k, o, h1, h2, h3, hQ⟩ := lw_walk l hflags b xs p e ha hc hk s m args below hf ((Spec.applies_iff_loose hf).mp happ).1 hP trivial
  exact ⟨k, o, h1, h2, h3, hQ⟩
theorem lw_frame {s t : State} {o : Outcome} {args : Array Value} (h : Framed s o t [] 601024 7293034) :
    Framed s o t (fieldLocs frame_1_writes args s ++ arrayLocs frame_1_arrays args s ++ staticLocs frame_1_statics s) 601024 7293034 := h
theorem lw_limb (L : Cond) (hL : ∀ (args : Array Value) (s t : State), L.after args s (.returned (some (.int 1))) t = true) :
    ArmFor flags0 classFile x code maxLocals ret World_1 tables_1 room_1 Calls_1 rest_1 Pre_1
      (fun tb e a s o t => postC L tb e a s o t ∧ Framed s o t (fieldLocs frame_1_writes a s ++ arrayLocs frame_1_arrays a s ++ staticLocs frame_1_statics s) 601024 7293034) := by
  intro l hflags _ _ p e ha hc hk s m args below hf hfit hheap happ hpre
  obtain ⟨k, o, h1, h2, h3, rfl, hF⟩ := lw_comes l hflags p e ha hc hk s m args below hf hfit hheap happ hpre
  exact ⟨k, _, h1, h2, h3, hL args s _, lw_frame hF⟩
theorem i_vc : Claimed_1_1 ∧ Claimed_1_2 := ⟨lw_limb limb_1_1 (fun args s t => by simp [limb_1_1, Cond.after, Cond.holds, Cond.value]), lw_limb limb_1_2 (fun args s t => Cond.after_iff.mpr (by
  first | (rw [show limb_1_2 = Cond.eq .result (.int 1) from rfl, Cond.eq_ints (x := 1) (y := 1) rfl rfl]; simp; done) | (simp [limb_1_2, Cond.value, Term.eval]; done)))⟩

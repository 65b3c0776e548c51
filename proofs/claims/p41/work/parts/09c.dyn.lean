section XD2
variable {E : Ev} {p : Program} {l : Launch} {e : Env} {R : Room} {s : State} {m : MethodId} {args : Array Value} {below : List Frame} {meth : Method} {c : Code} {Q : State → Prop} {own : String} {cc : ByteArray} {nL kc ks : Nat} {σ : Sg} {pc : Nat} {L : List (Option Value)} {st : List Value}
/-! fields of what the law and the JDK's members make -/
def fD (own : String) (idx ci k : Nat) : Prop := ∃ (Cn : String) (T : u_T) (N : Nat), clK ci Cn T N ∧ k < N ∧ (Cond.fieldLink own idx (T k).1 (T k).2.1 (T k).2.2.1 ∈ tblG ∨ ∃ host, Cond.fieldLinkNest own idx (T k).1 (T k).2.1 (T k).2.2.1 host ∈ tblN)
def pD (own : String) (idx ci k : Nat) : Prop := ∃ (Cn : String) (T : u_T) (N : Nat), clK ci Cn T N ∧ k < N ∧ (Cond.fieldLink own idx (T k).1 (T k).2.1 (T k).2.2.1 ∈ tblG ∨ ∃ host, Cond.fieldLinkNest own idx (T k).1 (T k).2.1 (T k).2.2.1 host ∈ tblN) ∧ (T k).2.2.2 = false
theorem dobj_of (C : Cx E p s m args meth c own cc nL) {H : Heap} (hH : Hd E σ H) {ci a N : Nat} {Cn : String} {T : u_T} (hc : clK ci Cn T N) (hk : ckH σ ci a = true) : t_OB (ad E a) ((eD E).1 ci) N ((eD E).2 ci) H (fun k => fva E σ ci a k) ∧ u_Kn s Cn T N ((eD E).1 ci) ((eD E).2 ci) := by
  obtain ⟨h1, h2, h3⟩ := ckH_s hk
  obtain ⟨r, r1, r2⟩ := (dyn_of hH h2 h3).1 (by rw [h1])
  rw [h1] at r1 r2
  have e : r = (Cn, T, N) := Option.some.inj (r1.symm.trans hc.1)
  subst e
  exact ⟨r2, C.2.2.2.2.2.1.1.1 ci _ hc.1⟩
theorem x_dgetf (C : Cx E p s m args meth c own cc nL) {idx ci k a : Nat} {v : Value} (hl : fD own idx ci k) (hv : fva E σ ci a k = v) (hk : ckP σ ci k a = true) (hd : decode cc pc = .ok (.getfield idx, 3)) (kk : X E p l e R s m args below meth c Q nL kc ks σ (pc + 3) L (v :: st)) : X E p l e R s m args below meth c Q nL kc ks σ pc L (.ref (ad E a) :: st) := by
  intro H locs ls hH hlo hL
  obtain ⟨Cn, T, N, hc, hkN, hlink⟩ := hl
  rcases ckP_s hk with hk | ⟨rfl, hk2, h1, h2, h3⟩
  · obtain ⟨⟨cell, q1, q2, q3, q4⟩, hS, hfc, kC, hkC, hkind⟩ := dobj_of C hH hc hk
    obtain ⟨cf, kf, fi, f, hi, hsl⟩ := hS k hkN
    have hst := (u_facts hfc hkC (u_lays C.2.2.2.2.1 hc.2.1 hkN) hi).1
    have hs : cell.slots[f.slot]? = some v := by rw [hsl, q4 k hkN]; exact congrArg some hv
    rcases hlink with hlink | ⟨host, hlink⟩
    · exact W.getf C.1 C.2.1 C.2.2.2.1 (C.2.2.2.2.1 _ hlink) hi hst q1 (by rw [q3]; exact fun h => by cases h) hs rfl rfl hd (kk H locs ls hH hlo hL)
    · exact va_Wgetf C.1 C.2.1 C.2.2.2.1 (KN_of C hlink rfl) hi hst q1 (by rw [q3]; exact fun h => by cases h) hs rfl rfl hd (kk H locs ls hH hlo hL)
  · obtain ⟨o1, o2, o3, o4⟩ := hH.1.2.1 a h1 h2
    rw [o1] at h3
    obtain ⟨g1, g2, g3⟩ := (out_of C h1 h2).2.2.1 h3
    have e : (Cn, T, N) = (RJ0, TJ0, 4) := Option.some.inj (hc.1.symm.trans rfl)
    cases e
    rcases (show k = 0 ∨ k = 1 by omega) with rfl | rfl
    · have hv2 : rv0 E (oR E a 0) = v := by rw [← o3]; exact hv
      exact x_getX C (hv2 ▸ g2) hlink hd kk H locs ls hH hlo hL
    · have hv2 : Value.int 0 = v := by rw [← o4 1]; exact hv
      exact x_getX C (hv2 ▸ g3) hlink hd kk H locs ls hH hlo hL
theorem x_dgetI (C : Cx E p s m args meth c own cc nL) {idx ci k a : Nat} (hl : fD own idx ci k) (hf : fkd (fty ci k) = 0) (hk : ckP σ ci k a = true) (hd : decode cc pc = .ok (.getfield idx, 3)) (kk : X E p l e R s m args below meth c Q nL kc ks σ (pc + 3) L (.int (gI σ a k) :: st)) : X E p l e R s m args below meth c Q nL kc ks σ pc L (.ref (ad E a) :: st) := x_dgetf C hl (fva_I hf) hk hd kk
theorem x_dgetJ (C : Cx E p s m args meth c own cc nL) {idx ci k a : Nat} (hl : fD own idx ci k) (hf : fkd (fty ci k) = 1) (hk : ckP σ ci k a = true) (hd : decode cc pc = .ok (.getfield idx, 3)) (kk : X E p l e R s m args below meth c Q nL kc ks σ (pc + 3) L (.long (gJ σ a k) :: st)) : X E p l e R s m args below meth c Q nL kc ks σ pc L (.ref (ad E a) :: st) := x_dgetf C hl (fva_J hf) hk hd kk
theorem x_dgetR (C : Cx E p s m args meth c own cc nL) {idx ci k a : Nat} (hl : fD own idx ci k) (hf : fkd (fty ci k) = 2) (hk : ckP σ ci k a = true) (hv : ckV (gR σ a k) = true) (hd : decode cc pc = .ok (.getfield idx, 3)) (kk : X E p l e R s m args below meth c Q nL kc ks σ (pc + 3) L (.ref (ad E (gR σ a k)) :: st)) : X E p l e R s m args below meth c Q nL kc ks σ pc L (.ref (ad E a) :: st) := x_dgetf C hl ((fva_R hf).trans (rv0_s (ckV_s hv))) hk hd kk
/-- a field is written -/
theorem x_dputf (C : Cx E p s m args meth c own cc nL) {idx ci k a : Nat} {v : Value} {σ' : Sg} (hl : pD own idx ci k ∨ (qL own idx ci k ∧ meth.name = "<init>")) (hk : ckH σ ci a = true) (hn : narrow (fty ci k) v = v) (hfit : fits (fty ci k) v = true) (hv : fva E σ' ci a k = v) (ho : ∀ j, j ≠ k → fva E σ' ci a j = fva E σ ci a j) (hN : tl σ' = tl σ)
    (e1 : ∀ b, b ≠ a → ∀ k, gI σ' b k = gI σ b k) (e2 : ∀ b, b ≠ a → ∀ k, gJ σ' b k = gJ σ b k) (e3 : ∀ b, b ≠ a → ∀ k, gR σ' b k = gR σ b k) (e4 : ∀ b, b ≠ a → ∀ k, aI σ' b k = aI σ b k) (e5 : ∀ b, b ≠ a → ∀ k, aJ σ' b k = aJ σ b k) (e6 : ∀ b i j, aG σ' b i j = aG σ b i j)
    (hd : decode cc pc = .ok (.putfield idx, 3)) (kk : X E p l e R s m args below meth c Q nL kc ks σ' (pc + 3) L st) : X E p l e R s m args below meth c Q nL kc ks σ pc L (v :: .ref (ad E a) :: st) := by
  intro H locs ls hH hlo hL
  obtain ⟨h1, h2, h3⟩ := ckH_s hk
  have hS' : gS σ' a = (1, ci) := (congrArg (fun t : Tg => t.2.2.2.2 a) hN).trans h1
  have fin : ∀ (Cn : String) (T : u_T) (N : Nat), clK ci Cn T N → k < N → ∀ (cell : Cell), H[ad E a]? = some cell → cell.cls = (eD E).1 ci → cell.vm = .none → (∀ j, j < N → cell.slots[(eD E).2 ci j]? = some (fva E σ ci a j)) → ∀ H1 : Heap, H1[ad E a]? = some (cell.setSlot ((eD E).2 ci k) v) → H1.size = H.size → (∀ q : Addr, q ≠ ad E a → H1[q]? = H[q]?) → Hd E σ' H1 := by
    intro Cn T N hc hkN cell q1 q2 q3 q4 H1 w1 w2 w3
    have hap := va_apart (own := own) C.2.2.2.2.1 hc.2.1 (fty ci) hc.2.2.1 hc.2.2.2 C.2.2.2.2.2.1.1 hc.1
    refine hH.dput h2 h3 w2 w3 hN e1 e2 e3 e4 e5 e6 ?_
    unfold dcel
    rw [hS']
    refine ⟨fun _ => ?_, fun h => ?_, fun h => ?_, fun h => ?_, fun h => ?_, fun h => ?_⟩
    · refine ⟨_, hc.1, _, w1, q2, q3, fun j hj => ?_⟩
      rw [t_set q4 hap hkN v j hj]
      by_cases hjk : j = k
      · subst hjk
        show some (updV (fun k => fva E σ ci a k) j v j) = some (fva E σ' ci a j)
        rw [hv]
        exact congrArg some (if_pos rfl)
      · show some (updV (fun k => fva E σ ci a k) k v j) = some (fva E σ' ci a j)
        rw [ho j hjk]
        exact congrArg some (if_neg hjk)
    all_goals exact (k_no (y := 1) rfl h (by decide)).elim
  rcases hl with ⟨Cn, T, N, hc, hkN, hlink, hfin⟩ | ⟨⟨T, N, hc, hkN, hlink, hown, hfin⟩, hin⟩
  · obtain ⟨⟨cell, q1, q2, q3, q4⟩, hS, hfc, kC, hkC, hkind⟩ := dobj_of C hH hc hk
    obtain ⟨cf, kf, fi, f, hi, hsl⟩ := hS k hkN
    have hst := (u_facts hfc hkC (u_lays C.2.2.2.2.1 hc.2.1 hkN) hi).1
    have hlay := C.2.2.2.2.1 _ (hc.2.1 _ (u_in_lay hkN))
    unfold u_lay at hlay
    rw [if_neg (by rw [hfin]; decide)] at hlay
    have h6 := u_store hfc hkC hkind hlay hi (hc.2.2.1 k hkN) hn hfit
    rcases hlink with hlink | ⟨host, hlink⟩
    · refine W.putK C.1 C.2.1 (f := f) ⟨C.2.2.2.1, C.2.2.2.2.1 _ hlink, ⟨_, _, _, hi⟩, hst⟩ (by rw [q2]; exact h6) q1 q3 (by rw [hsl]; exact k2_hasslot (q4 k hkN)) rfl rfl hd fun H1 w1 w2 w3 => ?_
      rw [hsl] at w1 ⊢
      exact kk H1 _ ls (fin Cn T N hc hkN cell q1 q2 q3 q4 H1 w1 w2 w3) (lo_put hlo (eF_dyn h2)) hL
    · refine va_WputK C.1 C.2.1 (f := f) C.2.2.2.1 (KN_of C hlink rfl) hi hst (by rw [q2]; exact h6) q1 q3 (by rw [hsl]; exact k2_hasslot (q4 k hkN)) rfl rfl hd fun H1 w1 w2 w3 => ?_
      rw [hsl] at w1 ⊢
      exact kk H1 _ ls (fin Cn T N hc hkN cell q1 q2 q3 q4 H1 w1 w2 w3) (lo_put hlo (eF_dyn h2)) hL
  · obtain ⟨⟨cell, q1, q2, q3, q4⟩, hS, hfc, kC, hkC, hkind⟩ := dobj_of C hH hc hk
    obtain ⟨cf, kf, fi, f, hi, hsl⟩ := hS k hkN
    have hst := (u_facts hfc hkC (u_lays C.2.2.2.2.1 hc.2.1 hkN) hi).1
    have hlay := C.2.2.2.2.1 _ (hc.2.1 _ (u_in_lay hkN))
    unfold u_lay at hlay
    rw [if_pos hfin] at hlay
    have hcf : m.cls = cf := by
      obtain ⟨_, _, c', _, _, _, -, -, hf', -, -, -, hown2, -⟩ := Cond.laysFinal_spec hlay
      have e1 : c' = cf := by have := hi.symm.trans hf'; simp at this; exact this.1.symm
      rw [hown] at hown2
      rw [← e1]; exact Option.some.inj (C.2.2.2.1.symm.trans hown2)
    have h6 := u_fits hfc hkC hkind (Or.inr hlay) hi (hc.2.2.1 k hkN) hn hfit
    rw [hown] at hi
    refine W.putFinK C.1 C.2.1 C.2.2.2.1 (C.2.2.2.2.1 _ hlink) hi hst hcf hin (by rw [q2]; exact h6) q1 q3 (by rw [hsl]; exact k2_hasslot (q4 k hkN)) rfl rfl hd fun H1 w1 w2 w3 => ?_
    rw [hsl] at w1 ⊢
    exact kk H1 _ ls (fin own T N hc hkN cell q1 q2 q3 q4 H1 w1 w2 w3) (lo_put hlo (eF_dyn h2)) hL
theorem x_dputI (C : Cx E p s m args meth c own cc nL) {idx ci k a : Nat} {x : Int32} (hl : pD own idx ci k) (hf : fty ci k = .int) (hk : ckH σ ci a = true) (hd : decode cc pc = .ok (.putfield idx, 3)) (kk : X E p l e R s m args below meth c Q nL kc ks (pI σ a k x) (pc + 3) L st) : X E p l e R s m args below meth c Q nL kc ks σ pc L (.int x :: .ref (ad E a) :: st) :=
  x_dputf (σ' := pI σ a k x) C (Or.inl hl) hk (by rw [hf]; rfl) (by rw [hf]; rfl) ((fva_I (by rw [hf]; rfl)).trans (congrArg Value.int u2_s)) (fun j hj => fva_pI hj) rfl (fun b hb k => u2_n (Or.inl hb)) (fun _ _ _ => rfl) (fun _ _ _ => rfl) (fun _ _ _ => rfl) (fun _ _ _ => rfl) (fun _ _ _ => rfl) hd kk
theorem ckK_s {x : Int32} (h : ckK x = true) : narrow .byte (.int x) = .int x ∧ fits .byte (.int x) = true := by
  unfold ckK at h
  have h := of_decide_eq_true h
  refine ⟨(narrow_byte x).trans (congrArg Value.int h), ?_⟩
  rw [← h]
  exact pk_fb x
theorem x_dputB (C : Cx E p s m args meth c own cc nL) {idx ci k a : Nat} {x : Int32} (hl : pD own idx ci k ∨ (qL own idx ci k ∧ meth.name = "<init>")) (hf : fty ci k = .byte) (hk : ckH σ ci a = true) (hx : ckK x = true) (hd : decode cc pc = .ok (.putfield idx, 3)) (kk : X E p l e R s m args below meth c Q nL kc ks (pI σ a k x) (pc + 3) L st) : X E p l e R s m args below meth c Q nL kc ks σ pc L (.int x :: .ref (ad E a) :: st) :=
  x_dputf (σ' := pI σ a k x) C hl hk (by rw [hf]; exact (ckK_s hx).1) (by rw [hf]; exact (ckK_s hx).2) ((fva_I (by rw [hf]; rfl)).trans (congrArg Value.int u2_s)) (fun j hj => fva_pI hj) rfl (fun b hb k => u2_n (Or.inl hb)) (fun _ _ _ => rfl) (fun _ _ _ => rfl) (fun _ _ _ => rfl) (fun _ _ _ => rfl) (fun _ _ _ => rfl) hd kk
theorem x_dputJ (C : Cx E p s m args meth c own cc nL) {idx ci k a : Nat} {x : Int64} (hl : pD own idx ci k) (hf : fty ci k = .long) (hk : ckH σ ci a = true) (hd : decode cc pc = .ok (.putfield idx, 3)) (kk : X E p l e R s m args below meth c Q nL kc ks (pJ σ a k x) (pc + 3) L st) : X E p l e R s m args below meth c Q nL kc ks σ pc L (.long x :: .ref (ad E a) :: st) :=
  x_dputf (σ' := pJ σ a k x) C (Or.inl hl) hk (by rw [hf]; rfl) (by rw [hf]; rfl) ((fva_J (by rw [hf]; rfl)).trans (congrArg Value.long u2_s)) (fun j hj => fva_pJ hj) rfl (fun _ _ _ => rfl) (fun b hb k => u2_n (Or.inl hb)) (fun _ _ _ => rfl) (fun _ _ _ => rfl) (fun _ _ _ => rfl) (fun _ _ _ => rfl) hd kk
theorem x_dputR (C : Cx E p s m args meth c own cc nL) {idx ci k a x : Nat} (hl : pD own idx ci k ∨ (qL own idx ci k ∧ meth.name = "<init>")) (hf : (∃ n, fty ci k = .object n) ∨ ∃ u, fty ci k = .array u) (hk : ckH σ ci a = true) (hv : ckV x = true) (hd : decode cc pc = .ok (.putfield idx, 3)) (kk : X E p l e R s m args below meth c Q nL kc ks (pR σ a k x) (pc + 3) L st) : X E p l e R s m args below meth c Q nL kc ks σ pc L (.ref (ad E x) :: .ref (ad E a) :: st) :=
  x_dputf (σ' := pR σ a k x) C hl hk (ref_ok (r := ad E x) hf).2.1 (ref_ok (r := ad E x) hf).2.2 ((fva_R (ref_ok (r := 0) hf).1).trans (by rw [show gR (pR σ a k x) a k = x from u2_s]; exact rv0_s (ckV_s hv))) (fun j hj => fva_pR hj) rfl (fun _ _ _ => rfl) (fun _ _ _ => rfl) (fun b hb k => u2_n (Or.inl hb)) (fun _ _ _ => rfl) (fun _ _ _ => rfl) (fun _ _ _ => rfl) hd kk
/-! what is made -/
theorem mkD_o {k n z b : Nat} (h : b ≠ 2000 + gM σ) : (∀ k', gI (mkD σ k n z) b k' = gI σ b k') ∧ (∀ k', gJ (mkD σ k n z) b k' = gJ σ b k') ∧ (∀ k', gR (mkD σ k n z) b k' = gR σ b k') ∧ (∀ k', aI (mkD σ k n z) b k' = aI σ b k') ∧ (∀ k', aJ (mkD σ k n z) b k' = aJ σ b k') ∧ gS (mkD σ k n z) b = gS σ b :=
  ⟨fun k' => congrFun (u1_n (f := σ.1) (v := fun _ => 0) h) k', fun k' => congrFun (u1_n (f := σ.2.1) (v := fun _ => 0) h) k', fun k' => congrFun (u1_n (f := σ.2.2.1) (v := fun _ => 0) h) k', fun k' => congrFun (u1_n (f := σ.2.2.2.1) (v := fun _ => 0) h) k', fun k' => congrFun (u1_n (f := σ.2.2.2.2.1) (v := fun _ => 0) h) k', u1_n (f := σ.2.2.2.2.2.2.2.2.2.2) h⟩
theorem mkD_z {k n z : Nat} : (∀ k', gI (mkD σ k n z) (2000 + gM σ) k' = 0) ∧ (∀ k', gJ (mkD σ k n z) (2000 + gM σ) k' = 0) ∧ (∀ k', gR (mkD σ k n z) (2000 + gM σ) k' = 0) ∧ (∀ k', aI (mkD σ k n z) (2000 + gM σ) k' = 0) ∧ (∀ k', aJ (mkD σ k n z) (2000 + gM σ) k' = 0) ∧ gS (mkD σ k n z) (2000 + gM σ) = (k, n) :=
  ⟨fun k' => congrFun (u1_s (f := σ.1) (a := 2000 + gM σ) (v := fun _ => 0)) k', fun k' => congrFun (u1_s (f := σ.2.1) (a := 2000 + gM σ) (v := fun _ => 0)) k', fun k' => congrFun (u1_s (f := σ.2.2.1) (a := 2000 + gM σ) (v := fun _ => 0)) k', fun k' => congrFun (u1_s (f := σ.2.2.2.1) (a := 2000 + gM σ) (v := fun _ => 0)) k', fun k' => congrFun (u1_s (f := σ.2.2.2.2.1) (a := 2000 + gM σ) (v := fun _ => 0)) k', u1_s (f := σ.2.2.2.2.2.2.2.2.2.2) (a := 2000 + gM σ)⟩
theorem dsz {H : Heap} (hH : Hd E σ H) (hN : gN σ = 51) : H.size = (eH E).size + off 51 + gM σ := by
  obtain ⟨⟨b1, bo, d1, d2, d3⟩, b2, b3, b4, b5, b6⟩ := hH
  by_cases hf : gF σ = true
  · rw [b3 hf, d2 hf, hN, Nat.add_zero]
  · exact (d1 (by simpa using hf)).2
theorem dad_new {H : Heap} (hH : Hd E σ H) (hN : gN σ = 51) : H.size = ad E (2000 + gM σ) := by
  rw [ad_ge (by omega), dsz hH hN]
  omega
theorem Hd.dmk {H H1 : Heap} {k n z : Nat} (hH : Hd E σ H) (hN : gN σ = 51) (hz : H1.size = H.size + 1) (o : ∀ q : Nat, q < H.size → H1[q]? = H[q]?) (hc : dcel E (mkD σ k n z) H1 (2000 + gM σ)) : Hd E (mkD σ k n z) H1 := by
  have hs := dsz hH hN
  obtain ⟨⟨b1, bo, d1, d2, d3⟩, b2, b3, b4, b5, b6⟩ := hH
  refine ⟨⟨fun q hq => by rw [o q (by omega)]; exact b1 q hq, fun b hb1 hb2 => ?_, fun _ => ⟨hN, ?_⟩, fun h => (by cases h), fun b hb1 hb2 => ?_⟩, ?_, fun h => (by cases h), b4, b5, fun a h0 ha => ?_⟩
  · obtain ⟨o1, o2, o3, o4⟩ := bo b hb1 hb2
    obtain ⟨m1, m2, m3, m4, m5, m6⟩ := mkD_o (σ := σ) (k := k) (n := n) (z := z) (show b ≠ 2000 + gM σ by omega)
    exact ⟨m6.trans o1, fun j => (m4 j).trans (o2 j), fun j => (m3 j).trans (o3 j), fun j => (m1 j).trans (o4 j)⟩
  · show _ = _ + (gM σ + 1)
    omega
  · have hb2 : b < 2000 + (gM σ + 1) := hb2
    by_cases hb : b = 2000 + gM σ
    · subst hb; exact hc
    · obtain ⟨m1, m2, m3, m4, m5, m6⟩ := mkD_o (σ := σ) (k := k) (n := n) (z := z) hb
      refine (d3 b hb1 (by omega)).kept (o _ ?_) m6 m1 m2 m3 m4 m5
      rw [ad_ge hb1]
      omega
  · show (eH E).size + off (gN σ) ≤ _
    omega
  · have ha : a < gN σ := ha
    obtain ⟨m1, m2, m3, m4, m5, m6⟩ := mkD_o (σ := σ) (k := k) (n := n) (z := z) (show a ≠ 2000 + gM σ by omega)
    refine (b6 a h0 ha).kept (fun q hq => o q ?_) m1 m2 m3 m4 m5 (fun _ _ => rfl)
    have h1 := hq.2
    rw [ad_lt (by omega)] at h1
    have := off_lt (a := a) (b := 51) (by omega)
    omega
theorem ck51_s (h : ck51 σ = true) : gN σ = 51 := of_decide_eq_true h
theorem x_dnew (C : Cx E p s m args meth c own cc nL) {idx ci N : Nat} {Cn : String} {T : u_T} (hc : clK ci Cn T N) (hcl : Cond.classLink own idx Cn ∈ tblG) (hins : Cond.instantiable Cn N ∈ tblG) (hini : Cond.initialized Cn ∈ tblG) (hdf : ∀ k, k < N → defaultValue (fty ci k) = dfv (fty ci k)) (hk : ck51 σ = true) (hR : kc + 1 ≤ R.cells ∧ ks + N ≤ R.slots) (hd : decode cc pc = .ok (.new idx, 3)) (kk : X E p l e R s m args below meth c Q nL (kc + 1) (ks + N) (mkD σ 1 ci N) (pc + 3) L (.ref (ad E (2000 + gM σ)) :: st)) : X E p l e R s m args below meth c Q nL kc ks σ pc L st := by
  intro H locs ls hH hlo hL
  have hN := ck51_s hk
  have hKn := C.2.2.2.2.2.1.1.1 ci _ hc.1
  obtain ⟨m1, m2, m3, m4, m5, m6⟩ := mkD_z (σ := σ) (k := 1) (n := ci) (z := N)
  refine W.newcK C.1 C.2.1 C.2.2.2.1 (C.2.2.2.2.1 _ hcl) (C.2.2.2.2.1 _ hins) (C.2.2.2.2.1 _ hini) rfl hd hR.1 hR.2 hKn.2.1 (dad_new hH hN) fun H1 kC hkC e1 z1 o1 => ?_
  have hz := dad_new hH hN
  refine kk H1 locs ls (hH.dmk hN (by rw [z1, ← hz]) (fun q hq => o1 q (by rw [← hz]; exact hq)) ?_) hlo hL
  unfold dcel
  rw [m6]
  refine ⟨fun _ => ?_, fun h => ?_, fun h => ?_, fun h => ?_, fun h => ?_, fun h => ?_⟩
  · refine ⟨_, hc.1, (u_born (fty ci) C.2.2.2.2.1 hc.2.1 hKn hkC e1 hc.2.2.1).to (fun k hk => ?_)⟩
    rw [hdf k hk]
    unfold dfv fva
    rw [m1, m2, m3]
    rfl
  all_goals exact (k_no (y := 1) rfl h (by decide)).elim
theorem x_dnewI (C : Cx E p s m args meth c own cc nL) {n : Int32} (ha : Cond.arrayClass .int ∈ tblG) (hn : ckn n = true) (hk : ck51 σ = true) (hR : kc + 1 ≤ R.cells ∧ ks + n.toNatClampNeg ≤ R.slots) (hd : decode cc pc = .ok (.newarray .int, 2)) (kk : X E p l e R s m args below meth c Q nL (kc + 1) (ks + n.toNatClampNeg) (mkD σ 2 n.toNatClampNeg n.toNatClampNeg) (pc + 2) L (.ref (ad E (2000 + gM σ)) :: st)) : X E p l e R s m args below meth c Q nL kc ks σ pc L (.int n :: st) := by
  intro H locs ls hH hlo hL
  have hN := ck51_s hk
  obtain ⟨n0, n1⟩ := ckn_s hn
  obtain ⟨m1, m2, m3, m4, m5, m6⟩ := mkD_z (σ := σ) (k := 2) (n := n.toNatClampNeg) (z := n.toNatClampNeg)
  have hz := dad_new hH hN
  refine va_newaK (atype := .int) C.1 C.2.1 (C.2.2.2.2.1 _ ha) rfl hd rfl n0 rfl (by show _ * 4 ≤ _; omega) hR.1 hR.2 hz fun H1 cA e1 z1 o1 _ hfc => ?_
  refine kk H1 locs ls (hH.dmk hN (by rw [z1, ← hz]) (fun q hq => o1 q (by rw [← hz]; exact hq)) ?_) hlo hL
  unfold dcel
  rw [m6]
  refine ⟨fun h => ?_, fun _ => ?_, fun h => ?_, fun h => ?_, fun h => ?_, fun h => ?_⟩
  · exact (k_no (y := 2) rfl h (by decide)).elim
  · rw [e1, (Option.some.inj (hfc.symm.trans (C.2.2.2.2.2.1.1.2 0 _ rfl).2) : cA = eA E 0)]
    exact congrArg some (congrArg _ (funext fun j => congrArg Value.int (m4 j).symm))
  all_goals exact (k_no (y := 2) rfl h (by decide)).elim
theorem x_dnewZ (C : Cx E p s m args meth c own cc nL) {n : Int32} (ha : Cond.arrayClass .boolean ∈ tblG) (hn : ckn n = true) (hk : ck51 σ = true) (hR : kc + 1 ≤ R.cells ∧ ks + n.toNatClampNeg ≤ R.slots) (hd : decode cc pc = .ok (.newarray .boolean, 2)) (kk : X E p l e R s m args below meth c Q nL (kc + 1) (ks + n.toNatClampNeg) (mkD σ 3 n.toNatClampNeg n.toNatClampNeg) (pc + 2) L (.ref (ad E (2000 + gM σ)) :: st)) : X E p l e R s m args below meth c Q nL kc ks σ pc L (.int n :: st) := by
  intro H locs ls hH hlo hL
  have hN := ck51_s hk
  obtain ⟨n0, n1⟩ := ckn_s hn
  obtain ⟨m1, m2, m3, m4, m5, m6⟩ := mkD_z (σ := σ) (k := 3) (n := n.toNatClampNeg) (z := n.toNatClampNeg)
  have hz := dad_new hH hN
  refine va_newaK (atype := .boolean) C.1 C.2.1 (C.2.2.2.2.1 _ ha) rfl hd rfl n0 rfl (by show _ * 1 ≤ _; omega) hR.1 hR.2 hz fun H1 cA e1 z1 o1 _ hfc => ?_
  refine kk H1 locs ls (hH.dmk hN (by rw [z1, ← hz]) (fun q hq => o1 q (by rw [← hz]; exact hq)) ?_) hlo hL
  unfold dcel
  rw [m6]
  refine ⟨fun h => ?_, fun h => ?_, fun _ => ?_, fun h => ?_, fun h => ?_, fun h => ?_⟩
  · exact (k_no (y := 3) rfl h (by decide)).elim
  · exact (k_no (y := 3) rfl h (by decide)).elim
  · rw [e1, (Option.some.inj (hfc.symm.trans (C.2.2.2.2.2.1.1.2 1 _ rfl).2) : cA = eA E 1)]
    exact congrArg some (congrArg _ (funext fun j => congrArg Value.int (m4 j).symm))
  all_goals exact (k_no (y := 3) rfl h (by decide)).elim
theorem x_dnewJ (C : Cx E p s m args meth c own cc nL) {n : Int32} (ha : Cond.arrayClass .long ∈ tblG) (hn : ckn n = true) (hk : ck51 σ = true) (hR : kc + 1 ≤ R.cells ∧ ks + n.toNatClampNeg ≤ R.slots) (hd : decode cc pc = .ok (.newarray .long, 2)) (kk : X E p l e R s m args below meth c Q nL (kc + 1) (ks + n.toNatClampNeg) (mkD σ 4 n.toNatClampNeg n.toNatClampNeg) (pc + 2) L (.ref (ad E (2000 + gM σ)) :: st)) : X E p l e R s m args below meth c Q nL kc ks σ pc L (.int n :: st) := by
  intro H locs ls hH hlo hL
  have hN := ck51_s hk
  obtain ⟨n0, n1⟩ := ckn_s hn
  obtain ⟨m1, m2, m3, m4, m5, m6⟩ := mkD_z (σ := σ) (k := 4) (n := n.toNatClampNeg) (z := n.toNatClampNeg)
  have hz := dad_new hH hN
  refine va_newaK (atype := .long) C.1 C.2.1 (C.2.2.2.2.1 _ ha) rfl hd rfl n0 rfl (by show _ * 8 ≤ _; omega) hR.1 hR.2 hz fun H1 cA e1 z1 o1 _ hfc => ?_
  refine kk H1 locs ls (hH.dmk hN (by rw [z1, ← hz]) (fun q hq => o1 q (by rw [← hz]; exact hq)) ?_) hlo hL
  unfold dcel
  rw [m6]
  refine ⟨fun h => ?_, fun h => ?_, fun h => ?_, fun _ => ?_, fun h => ?_, fun h => ?_⟩
  · exact (k_no (y := 4) rfl h (by decide)).elim
  · exact (k_no (y := 4) rfl h (by decide)).elim
  · exact (k_no (y := 4) rfl h (by decide)).elim
  · rw [e1, (Option.some.inj (hfc.symm.trans (C.2.2.2.2.2.1.1.2 2 _ rfl).2) : cA = eA E 2)]
    exact congrArg some (congrArg _ (funext fun j => congrArg Value.long (m5 j).symm))
  all_goals exact (k_no (y := 4) rfl h (by decide)).elim
theorem x_dnewB (C : Cx E p s m args meth c own cc nL) {n : Int32} (ha : Cond.arrayClass .byte ∈ tblG) (hn : ckn n = true) (hk : ck51 σ = true) (hR : kc + 1 ≤ R.cells ∧ ks + n.toNatClampNeg ≤ R.slots) (hd : decode cc pc = .ok (.newarray .byte, 2)) (kk : X E p l e R s m args below meth c Q nL (kc + 1) (ks + n.toNatClampNeg) (mkD σ 6 n.toNatClampNeg n.toNatClampNeg) (pc + 2) L (.ref (ad E (2000 + gM σ)) :: st)) : X E p l e R s m args below meth c Q nL kc ks σ pc L (.int n :: st) := by
  intro H locs ls hH hlo hL
  have hN := ck51_s hk
  obtain ⟨n0, n1⟩ := ckn_s hn
  obtain ⟨m1, m2, m3, m4, m5, m6⟩ := mkD_z (σ := σ) (k := 6) (n := n.toNatClampNeg) (z := n.toNatClampNeg)
  have hz := dad_new hH hN
  refine va_newaK (atype := .byte) C.1 C.2.1 (C.2.2.2.2.1 _ ha) rfl hd rfl n0 rfl (by show _ * 1 ≤ _; omega) hR.1 hR.2 hz fun H1 cA e1 z1 o1 _ hfc => ?_
  refine kk H1 locs ls (hH.dmk hN (by rw [z1, ← hz]) (fun q hq => o1 q (by rw [← hz]; exact hq)) ?_) hlo hL
  unfold dcel
  rw [m6]
  refine ⟨fun h => ?_, fun h => ?_, fun h => ?_, fun h => ?_, fun h => ?_, fun _ => ⟨?_, fun j => by rw [m4]; decide⟩⟩
  · exact (k_no (y := 6) rfl h (by decide)).elim
  · exact (k_no (y := 6) rfl h (by decide)).elim
  · exact (k_no (y := 6) rfl h (by decide)).elim
  · exact (k_no (y := 6) rfl h (by decide)).elim
  · exact (k_no (y := 6) rfl h (by decide)).elim
  · rw [e1, (Option.some.inj (hfc.symm.trans (C.2.2.2.2.2.1.1.2 4 _ rfl).2) : cA = eA E 4)]
    exact congrArg some (congrArg _ (funext fun j => congrArg Value.int (m4 j).symm))
end XD2

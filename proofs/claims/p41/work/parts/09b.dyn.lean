/-! what the law and the JDK's members make and use: rules over the state -/
section XD
variable {E : Ev} {p : Program} {l : Launch} {e : Env} {R : Room} {s : State} {m : MethodId} {args : Array Value} {below : List Frame} {meth : Method} {c : Code} {Q : State → Prop} {own : String} {cc : ByteArray} {nL kc ks : Nat} {σ : Sg} {pc : Nat} {L : List (Option Value)} {st : List Value}
theorem x_i2b (C : Cx E p s m args meth c own cc nL) {x : Int32} (hd : decode cc pc = .ok (.i2b, 1)) (kk : X E p l e R s m args below meth c Q nL kc ks σ (pc + 1) L (.int x.toInt8.toInt32 :: st)) : X E p l e R s m args below meth c Q nL kc ks σ pc L (.int x :: st) := fun H locs ls hH hlo hL => lv_i2b C.1 C.2.1 hd rfl (kk H locs ls hH hlo hL)
theorem x_dup_x1 (C : Cx E p s m args meth c own cc nL) {v w : Value} (hd : decode cc pc = .ok (.dup_x1, 1)) (hv : v.category = 1) (hw : w.category = 1) (kk : X E p l e R s m args below meth c Q nL kc ks σ (pc + 1) L (v :: w :: v :: st)) : X E p l e R s m args below meth c Q nL kc ks σ pc L (v :: w :: st) := fun H locs ls hH hlo hL => lv_dup_x1 C.1 C.2.1 hd hv hw (kk H locs ls hH hlo hL)
theorem x_ifnonnull (C : Cx E p s m args meth c own cc nL) {x : Nat} {o : Int} {tgt : Nat} (hd : decode cc pc = .ok (.ifnonnull o, 3)) (ht : (pc : Int) + o = (tgt : Int)) (kk : X E p l e R s m args below meth c Q nL kc ks σ tgt L st) : X E p l e R s m args below meth c Q nL kc ks σ pc L (.ref x :: st) := fun H locs ls hH hlo hL => lv_ifnonnull C.1 C.2.1 hd ht (kk H locs ls hH hlo hL)
theorem x_anull (C : Cx E p s m args meth c own cc nL) (hd : decode cc pc = .ok (.aconst_null, 1)) (kk : X E p l e R s m args below meth c Q nL kc ks σ (pc + 1) L (.null :: st)) : X E p l e R s m args below meth c Q nL kc ks σ pc L st := fun H locs ls hH hlo hL => lv_null C.1 C.2.1 hd (kk H locs ls hH hlo hL)
theorem x_aret (C : Cx E p s m args meth c own cc nL) {a : Nat} {rt : FieldType} (hr : meth.sig.returnType = some rt) (hrt : (∃ n, rt = .object n) ∨ ∃ t, rt = .array t) (hd : decode cc pc = .ok (.areturn, 1)) : Y E p l e R s m args below meth c (some (.ref a)) σ kc ks nL kc ks σ pc L [.ref a] := fun H locs ls hH hlo hL =>
  W.aret C.1 C.2.1 hr hrt (Or.inr ⟨_, rfl⟩) (fun t ht hw => ⟨rfl, by rw [ht]; exact hH, C.2.2.2.2.2.1.warm hw⟩) hlo hd C.2.2.2.2.2.2
theorem x_mmax (C : Cx E p s m args meth c own cc nL) {idx : Nat} {x y : Int32} (hlink : Cond.methodLink own idx Lib.Math.max.name ∈ tblG) (hst : Cond.static Lib.Math.max.name ∈ tblG) (hini : Cond.initialized "java/lang/Math" ∈ tblG) (hcode : Cond.code Lib.Math.max.name Lib.Math.max.code 2 (some .int) ∈ tblG) (hR : 1 ≤ R.frames ∧ (st.map fun v => v.category).sum + 13 ≤ R.locals ∧ kc ≤ R.cells ∧ ks ≤ R.slots) (hd : decode cc pc = .ok (.invokestatic idx, 3)) (kk : X E p l e R s m args below meth c Q nL kc ks σ (pc + 3) L (.int (if x < y then y else x) :: st)) : X E p l e R s m args below meth c Q nL kc ks σ pc L (.int y :: .int x :: st) := fun H locs ls hH hlo hL =>
  va_mmax C.1 C.2.1 (C.2.2.1.trans hL.1.symm) C.2.2.2.1 (C.2.2.2.2.1 _ hlink) (C.2.2.2.2.1 _ hst) (C.2.2.2.2.1 _ hini) (C.2.2.2.2.1 _ hcode) hR.1 hR.2.1 hR.2.2.1 hR.2.2.2 hd (kk H locs ls hH hlo hL)
/-! checks -/
def ckA (σ : Sg) (kd a : Nat) (i : Int32) : Bool := decide ((gS σ a).1 = kd) && decide (1000 ≤ a) && decide (a < 2000 + gM σ) && inb i (gS σ a).2
def ckB (σ : Sg) (kd a : Nat) (i : Int32) : Bool := decide ((gS σ a).1 = kd) && decide (2000 ≤ a) && decide (a < 2000 + gM σ) && inb i (gS σ a).2
def ckQ (σ : Sg) (a : Nat) : Bool := decide (2 ≤ (gS σ a).1) && decide ((gS σ a).1 ≤ 6) && decide (1000 ≤ a) && decide (a < 2000 + gM σ) && (decide (2000 ≤ a) || decide ((gS σ a).1 = 2) || decide ((gS σ a).1 = 6))
def ckH (σ : Sg) (ci a : Nat) : Bool := decide (gS σ a = (1, ci)) && decide (2000 ≤ a) && decide (a < 2000 + gM σ)
def ckP (σ : Sg) (ci k a : Nat) : Bool := ckH σ ci a || (decide (ci = 7) && decide (k < 2) && decide (1000 ≤ a) && decide (a < 2000) && decide ((gS σ a).1 = 7))
def ck51 (σ : Sg) : Bool := decide (gN σ = 51)
def ckK (x : Int32) : Bool := decide (x.toInt8.toInt32 = x)
def ckn (x : Int32) : Bool := decide (0 ≤ x) && decide (x ≤ 60000)
theorem ckA_s {kd a : Nat} {i : Int32} (h : ckA σ kd a i = true) : (gS σ a).1 = kd ∧ 1000 ≤ a ∧ a < 2000 + gM σ ∧ inb i (gS σ a).2 = true := by
  unfold ckA at h
  simp only [Bool.and_eq_true, decide_eq_true_eq] at h
  exact ⟨h.1.1.1, h.1.1.2, h.1.2, h.2⟩
theorem ckB_s {kd a : Nat} {i : Int32} (h : ckB σ kd a i = true) : (gS σ a).1 = kd ∧ 2000 ≤ a ∧ a < 2000 + gM σ ∧ vp_in i (gS σ a).2 ∧ i.toNatClampNeg < (gS σ a).2 := by
  unfold ckB at h
  simp only [Bool.and_eq_true, decide_eq_true_eq] at h
  exact ⟨h.1.1.1, h.1.1.2, h.1.2, inb_s h.2⟩
theorem ckH_s {ci a : Nat} (h : ckH σ ci a = true) : gS σ a = (1, ci) ∧ 2000 ≤ a ∧ a < 2000 + gM σ := by
  unfold ckH at h
  simp only [Bool.and_eq_true, decide_eq_true_eq] at h
  exact ⟨h.1.1, h.1.2, h.2⟩
theorem ckP_s {ci k a : Nat} (h : ckP σ ci k a = true) : ckH σ ci a = true ∨ (ci = 7 ∧ k < 2 ∧ 1000 ≤ a ∧ a < 2000 ∧ (gS σ a).1 = 7) := by
  unfold ckP at h
  simp only [Bool.or_eq_true, Bool.and_eq_true, decide_eq_true_eq] at h
  rcases h with h | h
  · exact Or.inl h
  · exact Or.inr ⟨h.1.1.1.1, h.1.1.1.2, h.1.1.2, h.1.2, h.2⟩
theorem ckn_s {x : Int32} (h : ckn x = true) : ¬ x < 0 ∧ x.toNatClampNeg ≤ 60000 := by
  unfold ckn at h
  simp only [Bool.and_eq_true, decide_eq_true_eq] at h
  obtain ⟨h1, h2⟩ := h
  refine ⟨i32_nlt.mpr h1, ?_⟩
  rw [Int32.le_iff_toInt_le] at h2
  have h3 : (60000 : Int32).toInt = 60000 := by decide
  rw [h3] at h2
  unfold Int32.toNatClampNeg
  omega
theorem dyn_of {H : Heap} (hH : Hd E σ H) {a : Nat} (h1 : 2000 ≤ a) (h2 : a < 2000 + gM σ) : dcel E σ H a := hH.1.2.2.2.2 a h1 h2
theorem out_of (C : Cx E p s m args meth c own cc nL) {a : Nat} (h1 : 1000 ≤ a) (h2 : a < 2000) : outF E a s := kxO C.2.2.2.2.2.1.2 a h1 h2
theorem eF_dyn {a : Nat} (h : 2000 ≤ a) : eF E (ad E a) := by
  show (eH E).size ≤ ad E a
  rw [ad_ge h]
  omega
/-! arrays -/
theorem x_diald (C : Cx E p s m args meth c own cc nL) {a : Nat} {i : Int32} (hk : ckA σ 2 a i = true) (hd : decode cc pc = .ok (.iaload, 1)) (kk : X E p l e R s m args below meth c Q nL kc ks σ (pc + 1) L (.int (aI σ a i.toNatClampNeg) :: st)) : X E p l e R s m args below meth c Q nL kc ks σ pc L (.int i :: .ref (ad E a) :: st) := by
  intro H locs ls hH hlo hL
  obtain ⟨h1, h2, h3, h4⟩ := ckA_s hk
  by_cases h : 2000 ≤ a
  · obtain ⟨h5, h6⟩ := inb_s h4
    exact W.iald (v := .int (aI σ a i.toNatClampNeg)) C.1 C.2.1 ((dyn_of hH h h3).2.1 h1) (KU_arr C (k := 0) rfl _ _) (fun q => by cases q) (by show ¬ (i < 0 ∨ (arrV _ _ _).slots.size ≤ _); rw [arrV_size]; exact h5) (by show (arrV _ _ _).slots[_]? = _; rw [arrV_read _ _ h6]) rfl rfl hd (kk H locs ls hH hlo hL)
  · obtain ⟨o1, o2, o3, o4⟩ := hH.1.2.1 a h2 (by omega)
    have k2 := kk
    rw [o2] at k2
    rw [o1] at h1 h4
    exact x_ialdX C ((out_of C h2 (by omega)).1 h1) h4 hd k2 H locs ls hH hlo hL
theorem x_dbald (C : Cx E p s m args meth c own cc nL) {a : Nat} {i : Int32} (hk : ckA σ 6 a i = true) (hd : decode cc pc = .ok (.baload, 1)) (kk : X E p l e R s m args below meth c Q nL kc ks σ (pc + 1) L (.int (aI σ a i.toNatClampNeg) :: st)) : X E p l e R s m args below meth c Q nL kc ks σ pc L (.int i :: .ref (ad E a) :: st) := by
  intro H locs ls hH hlo hL
  obtain ⟨h1, h2, h3, h4⟩ := ckA_s hk
  by_cases h : 2000 ≤ a
  · obtain ⟨h5, h6⟩ := inb_s h4
    exact W.bald (v := .int (aI σ a i.toNatClampNeg)) C.1 C.2.1 ((dyn_of hH h h3).2.2.2.2.2 h1).1 (KU_arr C (k := 4) rfl _ _) (fun q => by cases q) (by show ¬ (i < 0 ∨ (arrV _ _ _).slots.size ≤ _); rw [arrV_size]; exact h5) (by show (arrV _ _ _).slots[_]? = _; rw [arrV_read _ _ h6]) rfl rfl hd (kk H locs ls hH hlo hL)
  · obtain ⟨o1, o2, o3, o4⟩ := hH.1.2.1 a h2 (by omega)
    have k2 := kk
    rw [o2] at k2
    rw [o1] at h1 h4
    exact x_baldX C ((out_of C h2 (by omega)).2.1 h1).1 h4 hd k2 H locs ls hH hlo hL
theorem x_dzald (C : Cx E p s m args meth c own cc nL) {a : Nat} {i : Int32} (hk : ckB σ 3 a i = true) (hd : decode cc pc = .ok (.baload, 1)) (kk : X E p l e R s m args below meth c Q nL kc ks σ (pc + 1) L (.int (aI σ a i.toNatClampNeg) :: st)) : X E p l e R s m args below meth c Q nL kc ks σ pc L (.int i :: .ref (ad E a) :: st) := by
  intro H locs ls hH hlo hL
  obtain ⟨h1, h2, h3, h5, h6⟩ := ckB_s hk
  exact W.zald (v := .int (aI σ a i.toNatClampNeg)) C.1 C.2.1 ((dyn_of hH h2 h3).2.2.1 h1) (KU_arr C (k := 1) rfl _ _) (fun q => by cases q) (by show ¬ (i < 0 ∨ (arrV _ _ _).slots.size ≤ _); rw [arrV_size]; exact h5) (by show (arrV _ _ _).slots[_]? = _; rw [arrV_read _ _ h6]) rfl rfl hd (kk H locs ls hH hlo hL)
theorem x_dlald (C : Cx E p s m args meth c own cc nL) {a : Nat} {i : Int32} (hk : ckB σ 4 a i = true) (hd : decode cc pc = .ok (.laload, 1)) (kk : X E p l e R s m args below meth c Q nL kc ks σ (pc + 1) L (.long (aJ σ a i.toNatClampNeg) :: st)) : X E p l e R s m args below meth c Q nL kc ks σ pc L (.int i :: .ref (ad E a) :: st) := by
  intro H locs ls hH hlo hL
  obtain ⟨h1, h2, h3, h5, h6⟩ := ckB_s hk
  exact W.lald (v := .long (aJ σ a i.toNatClampNeg)) C.1 C.2.1 ((dyn_of hH h2 h3).2.2.2.1 h1) (KU_arr C (k := 2) rfl _ _) (fun q => by cases q) (by show ¬ (i < 0 ∨ (arrV _ _ _).slots.size ≤ _); rw [arrV_size]; exact h5) (by show (arrV _ _ _).slots[_]? = _; rw [arrV_read _ _ h6]) rfl rfl hd (kk H locs ls hH hlo hL)
theorem x_daald (C : Cx E p s m args meth c own cc nL) {a : Nat} {i : Int32} (hk : ckB σ 5 a i = true) (hv : ckV (gR σ a i.toNatClampNeg) = true) (hd : decode cc pc = .ok (.aaload, 1)) (kk : X E p l e R s m args below meth c Q nL kc ks σ (pc + 1) L (.ref (ad E (gR σ a i.toNatClampNeg)) :: st)) : X E p l e R s m args below meth c Q nL kc ks σ pc L (.int i :: .ref (ad E a) :: st) := by
  intro H locs ls hH hlo hL
  obtain ⟨h1, h2, h3, h5, h6⟩ := ckB_s hk
  exact W.aald (v := .ref (ad E (gR σ a i.toNatClampNeg))) (ty := .array .int) C.1 C.2.1 ((dyn_of hH h2 h3).2.2.2.2.1 h1) (KU_arr C (k := 3) rfl _ _) rfl (fun q => by cases q) (by show ¬ (i < 0 ∨ (arrV _ _ _).slots.size ≤ _); rw [arrV_size]; exact h5) (by show (arrV _ _ _).slots[_]? = _; rw [arrV_read _ _ h6]; exact congrArg some (rv0_s (ckV_s hv))) rfl rfl hd (kk H locs ls hH hlo hL)
/-- of KINDS -/
theorem x_kaald (C : Cx E p s m args meth c own cc nL) {a : Nat} {i : Int32} (hk : (decide ((gS σ a).1 = 8) && decide (1000 ≤ a) && decide (a < 2000) && inb i (gS σ a).2) = true) (hv : ckV (gR σ a i.toNatClampNeg) = true) (hd : decode cc pc = .ok (.aaload, 1)) (kk : X E p l e R s m args below meth c Q nL kc ks σ (pc + 1) L (.ref (ad E (gR σ a i.toNatClampNeg)) :: st)) : X E p l e R s m args below meth c Q nL kc ks σ pc L (.int i :: .ref (ad E a) :: st) := by
  intro H locs ls hH hlo hL
  simp only [Bool.and_eq_true, decide_eq_true_eq] at hk
  obtain ⟨⟨⟨h1, h2⟩, h3⟩, h4⟩ := hk
  obtain ⟨o1, o2, o3, o4⟩ := hH.1.2.1 a h2 h3
  have k2 := kk
  rw [← rv0_s (ckV_s hv), o3] at k2
  rw [o1] at h1 h4
  exact x_aaldX C ((out_of C h2 h3).2.2.2 h1) h4 hd k2 H locs ls hH hlo hL
theorem x_dalen (C : Cx E p s m args meth c own cc nL) {a : Nat} (hk : ckQ σ a = true) (hd : decode cc pc = .ok (.arraylength, 1)) (kk : X E p l e R s m args below meth c Q nL kc ks σ (pc + 1) L (.int (nI (gS σ a).2) :: st)) : X E p l e R s m args below meth c Q nL kc ks σ pc L (.ref (ad E a) :: st) := by
  intro H locs ls hH hlo hL
  unfold ckQ at hk
  simp only [Bool.and_eq_true, Bool.or_eq_true, decide_eq_true_eq] at hk
  obtain ⟨⟨⟨⟨h1, h2⟩, h3⟩, h4⟩, h7⟩ := hk
  by_cases h : 2000 ≤ a
  · obtain ⟨c1, c2, c3, c4, c5, c6⟩ := dyn_of hH h h4
    have h6 : (gS σ a).1 = 2 ∨ (gS σ a).1 = 3 ∨ (gS σ a).1 = 4 ∨ (gS σ a).1 = 5 ∨ (gS σ a).1 = 6 := by omega
    rcases h6 with h1 | h1 | h1 | h1 | h1
    · exact W.alen (n := nI (gS σ a).2) C.1 C.2.1 (c2 h1) (KU_arr C (k := 0) rfl _ _) (by rw [arrV_size] <;> rfl) rfl rfl hd (kk H locs ls hH hlo hL)
    · exact W.alen (n := nI (gS σ a).2) C.1 C.2.1 (c3 h1) (KU_arr C (k := 1) rfl _ _) (by rw [arrV_size] <;> rfl) rfl rfl hd (kk H locs ls hH hlo hL)
    · exact W.alen (n := nI (gS σ a).2) C.1 C.2.1 (c4 h1) (KU_arr C (k := 2) rfl _ _) (by rw [arrV_size] <;> rfl) rfl rfl hd (kk H locs ls hH hlo hL)
    · exact W.alen (n := nI (gS σ a).2) C.1 C.2.1 (c5 h1) (KU_arr C (k := 3) rfl _ _) (by rw [arrV_size] <;> rfl) rfl rfl hd (kk H locs ls hH hlo hL)
    · exact W.alen (n := nI (gS σ a).2) C.1 C.2.1 (c6 h1).1 (KU_arr C (k := 4) rfl _ _) (by rw [arrV_size] <;> rfl) rfl rfl hd (kk H locs ls hH hlo hL)
  · obtain ⟨o1, o2, o3, o4⟩ := hH.1.2.1 a h3 (by omega)
    obtain ⟨f1, f2, f3, f4⟩ := out_of C h3 (show a < 2000 by omega)
    have k2 := kk
    rw [o1] at h7 k2
    rcases h7 with (h7 | h7) | h7
    · exact absurd h7 h
    · exact x_alenX C (f1 h7) hd k2 H locs ls hH hlo hL
    · exact x_alenX C (f2 h7).1 hd k2 H locs ls hH hlo hL
theorem k_no {x y z : Nat} (h1 : x = y) (h : x = z) (hne : y ≠ z) : False := hne (h1.symm.trans h)
theorem x_diast (C : Cx E p s m args meth c own cc nL) {a : Nat} {i x : Int32} (hk : ckB σ 2 a i = true) (hd : decode cc pc = .ok (.iastore, 1)) (kk : X E p l e R s m args below meth c Q nL kc ks (wI σ a i.toNatClampNeg x) (pc + 1) L st) : X E p l e R s m args below meth c Q nL kc ks σ pc L (.int x :: .int i :: .ref (ad E a) :: st) := by
  intro H locs ls hH hlo hL
  obtain ⟨h1, h2, h3, h5, h6⟩ := ckB_s hk
  refine W.iast C.1 C.2.1 ((dyn_of hH h2 h3).2.1 h1) (KU_arr C (k := 0) rfl _ _) (fun q => by cases q) (by show ¬ (i < 0 ∨ (arrV _ _ _).slots.size ≤ _); rw [arrV_size]; exact h5) rfl rfl hd fun H1 e1 z oq => ?_
  refine kk H1 _ ls (hH.dput h2 h3 z oq rfl (fun _ _ _ => rfl) (fun _ _ _ => rfl) (fun _ _ _ => rfl) (fun b hb k => u2_n (Or.inl hb)) (fun _ _ _ => rfl) (fun _ _ _ => rfl) ⟨fun h => (k_no h1 h (by decide)).elim, fun _ => ?_, fun h => (k_no h1 h (by decide)).elim, fun h => (k_no h1 h (by decide)).elim, fun h => (k_no h1 h (by decide)).elim, fun h => (k_no h1 h (by decide)).elim⟩) (lo_put hlo (eF_dyn h2)) hL
  rw [e1]
  exact congrArg some (xarr_set fun j => vI_s)
theorem x_dzast (C : Cx E p s m args meth c own cc nL) {a : Nat} {i x : Int32} (hk : ckB σ 3 a i = true) (h01 : ck01 x = true) (hd : decode cc pc = .ok (.bastore, 1)) (kk : X E p l e R s m args below meth c Q nL kc ks (wI σ a i.toNatClampNeg x) (pc + 1) L st) : X E p l e R s m args below meth c Q nL kc ks σ pc L (.int x :: .int i :: .ref (ad E a) :: st) := by
  intro H locs ls hH hlo hL
  obtain ⟨h1, h2, h3, h5, h6⟩ := ckB_s hk
  refine W.zast C.1 C.2.1 ((dyn_of hH h2 h3).2.2.1 h1) (KU_arr C (k := 1) rfl _ _) (fun q => by cases q) (by show ¬ (i < 0 ∨ (arrV _ _ _).slots.size ≤ _); rw [arrV_size]; exact h5) rfl rfl hd fun H1 e1 z oq => ?_
  refine kk H1 _ ls (hH.dput h2 h3 z oq rfl (fun _ _ _ => rfl) (fun _ _ _ => rfl) (fun _ _ _ => rfl) (fun b hb k => u2_n (Or.inl hb)) (fun _ _ _ => rfl) (fun _ _ _ => rfl) ⟨fun h => (k_no h1 h (by decide)).elim, fun h => (k_no h1 h (by decide)).elim, fun _ => ?_, fun h => (k_no h1 h (by decide)).elim, fun h => (k_no h1 h (by decide)).elim, fun h => (k_no h1 h (by decide)).elim⟩) (lo_put hlo (eF_dyn h2)) hL
  rw [e1, nar_01 h01]
  exact congrArg some (xarr_set fun j => vI_s)
theorem x_dlast (C : Cx E p s m args meth c own cc nL) {a : Nat} {i : Int32} {x : Int64} (hk : ckB σ 4 a i = true) (hd : decode cc pc = .ok (.lastore, 1)) (kk : X E p l e R s m args below meth c Q nL kc ks (wJ σ a i.toNatClampNeg x) (pc + 1) L st) : X E p l e R s m args below meth c Q nL kc ks σ pc L (.long x :: .int i :: .ref (ad E a) :: st) := by
  intro H locs ls hH hlo hL
  obtain ⟨h1, h2, h3, h5, h6⟩ := ckB_s hk
  refine W.last C.1 C.2.1 ((dyn_of hH h2 h3).2.2.2.1 h1) (KU_arr C (k := 2) rfl _ _) (fun q => by cases q) (by show ¬ (i < 0 ∨ (arrV _ _ _).slots.size ≤ _); rw [arrV_size]; exact h5) rfl rfl hd fun H1 e1 z oq => ?_
  refine kk H1 _ ls (hH.dput h2 h3 z oq rfl (fun _ _ _ => rfl) (fun _ _ _ => rfl) (fun _ _ _ => rfl) (fun _ _ _ => rfl) (fun b hb k => u2_n (Or.inl hb)) (fun _ _ _ => rfl) ⟨fun h => (k_no h1 h (by decide)).elim, fun h => (k_no h1 h (by decide)).elim, fun h => (k_no h1 h (by decide)).elim, fun _ => ?_, fun h => (k_no h1 h (by decide)).elim, fun h => (k_no h1 h (by decide)).elim⟩) (lo_put hlo (eF_dyn h2)) hL
  rw [e1]
  exact congrArg some (xarr_set fun j => vJ_s)
theorem bn_bn (x : Int32) : x.toInt8.toInt32.toInt8.toInt32 = x.toInt8.toInt32 := by simp
theorem x_dbast (C : Cx E p s m args meth c own cc nL) {a : Nat} {i x : Int32} (hk : ckB σ 6 a i = true) (hd : decode cc pc = .ok (.bastore, 1)) (kk : X E p l e R s m args below meth c Q nL kc ks (wI σ a i.toNatClampNeg x.toInt8.toInt32) (pc + 1) L st) : X E p l e R s m args below meth c Q nL kc ks σ pc L (.int x :: .int i :: .ref (ad E a) :: st) := by
  intro H locs ls hH hlo hL
  obtain ⟨h1, h2, h3, h5, h6⟩ := ckB_s hk
  refine W.bast C.1 C.2.1 ((dyn_of hH h2 h3).2.2.2.2.2 h1).1 (KU_arr C (k := 4) rfl _ _) (fun q => by cases q) (by show ¬ (i < 0 ∨ (arrV _ _ _).slots.size ≤ _); rw [arrV_size]; exact h5) rfl rfl hd fun H1 e1 z oq => ?_
  refine kk H1 _ ls (hH.dput h2 h3 z oq rfl (fun _ _ _ => rfl) (fun _ _ _ => rfl) (fun _ _ _ => rfl) (fun b hb k => u2_n (Or.inl hb)) (fun _ _ _ => rfl) (fun _ _ _ => rfl) ⟨fun h => (k_no h1 h (by decide)).elim, fun h => (k_no h1 h (by decide)).elim, fun h => (k_no h1 h (by decide)).elim, fun h => (k_no h1 h (by decide)).elim, fun h => (k_no h1 h (by decide)).elim, fun _ => ⟨?_, fun j => ?_⟩⟩) (lo_put hlo (eF_dyn h2)) hL
  · rw [e1, narrow_byte]
    exact congrArg some (xarr_set fun j => vI_s)
  · by_cases hj : j = i.toNatClampNeg
    · rw [show aI (wI σ a i.toNatClampNeg x.toInt8.toInt32) a j = x.toInt8.toInt32 from (by rw [hj]; exact u2_s)]
      exact bn_bn x
    · rw [show aI (wI σ a i.toNatClampNeg x.toInt8.toInt32) a j = aI σ a j from u2_n (Or.inr hj)]
      exact ((dyn_of hH h2 h3).2.2.2.2.2 h1).2 j
end XD

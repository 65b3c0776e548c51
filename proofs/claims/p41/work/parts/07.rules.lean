section XA
variable {E : Ev} {p : Program} {l : Launch} {e : Env} {R : Room} {s : State} {m : MethodId} {args : Array Value} {below : List Frame} {meth : Method} {c : Code} {Q : State → Prop} {own : String} {cc : ByteArray} {nL kc ks : Nat} {σ : Sg} {pc : Nat} {L : List (Option Value)} {st : List Value}
def X (E : Ev) (p : Program) (l : Launch) (e : Env) (R : Room) (s : State) (m : MethodId) (args : Array Value) (below : List Frame) (meth : Method) (c : Code) (Q : State → Prop) (nL kc ks : Nat) (σ : Sg) (pc : Nat) (L : List (Option Value)) (st : List Value) : Prop :=
  ∀ (H : Heap) (locs : List Loc) (ls : Array Slot), Hd E σ H → (∀ q ∈ locs, eF E q.base) → xL ls nL L → W p l e R s m args below meth c H locs kc ks Q (F0 m pc ls st)
/-- a jump to a place of which fewer locals are known -/
theorem x_sub {M : List (Option Value)} (h : X E p l e R s m args below meth c Q nL kc ks σ pc L st) (hl : xLe L M) : X E p l e R s m args below meth c Q nL kc ks σ pc M st := fun H locs ls hH hlo hL => h H locs ls hH hlo (hL.le hl)

/-- store of one place: what stood in the place is forgotten, and a long value that it cuts -/
def cut1 (L : List (Option Value)) (i : Nat) : List (Option Value) := match L[i]? with
  | some (some v) => if v.category = 2 then L.set i none else L
  | _ => L
def st1 (L : List (Option Value)) (i : Nat) (v : Value) : List (Option Value) := match i with
  | 0 => L.set 0 (some v)
  | j + 1 => (cut1 L j).set (j + 1) (some v)
def st2 (L : List (Option Value)) (i : Nat) (v : Value) : List (Option Value) := match i with
  | 0 => (L.set 0 (some v)).set 1 none
  | j + 1 => ((cut1 L j).set (j + 1) (some v)).set (j + 2) none
theorem cut1_get {L : List (Option Value)} {i j : Nat} {v : Value} (h : (cut1 L i)[j]? = some (some v)) : L[j]? = some (some v) ∧ (j = i → v.category ≠ 2) := by
  unfold cut1 at h
  split at h
  · rename_i w hw
    split at h
    · rename_i hc
      by_cases hj : i = j
      · subst hj
        rw [List.getElem?_set_self ((List.getElem?_eq_some_iff.mp hw).1)] at h
        cases h
      · rw [List.getElem?_set_ne hj] at h
        exact ⟨h, fun e => absurd e.symm hj⟩
    · rename_i hc
      refine ⟨h, fun e => ?_⟩
      subst e
      rw [hw] at h
      cases h
      exact hc
  · rename_i hno
    exact ⟨h, fun e => by subst e; exact absurd h (hno v)⟩
theorem set_get {α : Type} {L : List (Option α)} {i j : Nat} {w : Option α} {v : α} (h : (L.set i w)[j]? = some (some v)) : (j = i ∧ w = some v) ∨ (j ≠ i ∧ L[j]? = some (some v)) := by
  by_cases hj : i = j
  · subst hj
    by_cases hl : i < L.length
    · rw [List.getElem?_set_self hl] at h
      cases h
      exact Or.inl ⟨rfl, rfl⟩
    · rw [List.getElem?_eq_none (by simp; omega)] at h
      cases h
  · rw [List.getElem?_set_ne hj] at h
    exact Or.inr ⟨fun e => hj e.symm, h⟩
/-- the values listed, as the kit lists them -/
def xls (L : List (Option Value)) : List (Nat × Value) := (List.range L.length).filterMap (fun i => match L[i]? with
  | some (some v) => some (i, v)
  | _ => none)
theorem mem_xls {L : List (Option Value)} {i : Nat} {v : Value} : (i, v) ∈ xls L ↔ L[i]? = some (some v) := by
  unfold xls
  rw [List.mem_filterMap]
  constructor
  · rintro ⟨j, -, h⟩
    split at h
    · rename_i w hw
      cases h
      exact hw
    · cases h
  · intro h
    exact ⟨i, List.mem_range.mpr ((List.getElem?_eq_some_iff.mp h).1), by rw [h]⟩
theorem xL.has {ls : Array Slot} {nL : Nat} {L : List (Option Value)} (h : xL ls nL L) : lv_has ls nL (xls L) := ⟨h.1, h.2.1, fun q hq => h.2.2 q.1 q.2 (mem_xls.mp hq)⟩
theorem xL.of {ls : Array Slot} {nL : Nat} {L : List (Option Value)} {lv : List (Nat × Value)} (h : lv_has ls nL lv) (hl : ∀ (i : Nat) (v : Value), L[i]? = some (some v) → (i, v) ∈ lv) : xL ls nL L := ⟨h.1, h.2.1, fun i v hv => h.2.2 (i, v) (hl i v hv)⟩
theorem st1_of {L : List (Option Value)} {i : Nat} {v : Value} (j : Nat) (w : Value) (h : (st1 L i v)[j]? = some (some w)) : (j, w) ∈ (i, v) :: (xls L).filter (fun q => !(q.1 == i) && !(q.1 + 1 == i && q.2.category == 2)) := by
  cases i with
  | zero =>
    rcases set_get h with ⟨rfl, e⟩ | ⟨hne, e⟩
    · cases e; exact List.mem_cons_self
    · refine List.mem_cons_of_mem _ (List.mem_filter.mpr ⟨mem_xls.mpr e, ?_⟩)
      simp [hne]
  | succ i =>
    rcases set_get h with ⟨rfl, e⟩ | ⟨hne, e⟩
    · cases e; exact List.mem_cons_self
    · obtain ⟨e1, e2⟩ := cut1_get e
      refine List.mem_cons_of_mem _ (List.mem_filter.mpr ⟨mem_xls.mpr e1, ?_⟩)
      simp only [Bool.and_eq_true, Bool.not_eq_true', beq_eq_false_iff_ne, Bool.and_eq_false_iff]
      refine ⟨hne, ?_⟩
      by_cases hj : j = i
      · exact Or.inr (e2 hj)
      · exact Or.inl (by intro h; exact hj (Nat.succ.inj h))
theorem st2_of {L : List (Option Value)} {i : Nat} {v : Value} (j : Nat) (w : Value) (h : (st2 L i v)[j]? = some (some w)) : (j, w) ∈ (i, v) :: (xls L).filter (fun q => !(q.1 == i) && (!(q.1 == i + 1) && !(q.1 + 1 == i && q.2.category == 2))) := by
  cases i with
  | zero =>
    rcases set_get h with ⟨rfl, e⟩ | ⟨hn1, h⟩
    · cases e
    rcases set_get h with ⟨rfl, e⟩ | ⟨hne, e⟩
    · cases e; exact List.mem_cons_self
    · refine List.mem_cons_of_mem _ (List.mem_filter.mpr ⟨mem_xls.mpr e, ?_⟩)
      simp [hne, hn1]
  | succ i =>
    rcases set_get h with ⟨rfl, e⟩ | ⟨hn1, h⟩
    · cases e
    rcases set_get h with ⟨rfl, e⟩ | ⟨hne, e⟩
    · cases e; exact List.mem_cons_self
    · obtain ⟨e1, e2⟩ := cut1_get e
      refine List.mem_cons_of_mem _ (List.mem_filter.mpr ⟨mem_xls.mpr e1, ?_⟩)
      simp only [Bool.and_eq_true, Bool.not_eq_true', beq_eq_false_iff_ne, Bool.and_eq_false_iff]
      refine ⟨hne, hn1, ?_⟩
      by_cases hj : j = i
      · exact Or.inr (e2 hj)
      · exact Or.inl (by intro h; exact hj (Nat.succ.inj h))
theorem x_iload_n (C : Cx E p s m args meth c own cc nL) {k : Fin 4} {i : Nat} {x : Int32} (hd : decode cc pc = .ok (.iload_n k, 1)) (hi : (k : Nat) = i) (hl : L[i]? = some (some (.int x))) (kk : X E p l e R s m args below meth c Q nL kc ks σ (pc + 1) L (.int x :: st)) : X E p l e R s m args below meth c Q nL kc ks σ (pc) L (st) := fun H locs ls hH hlo hL => lv_iload_n C.1 C.2.1 hd hi (hL.2.2 _ _ hl) (kk H locs ls hH hlo hL)
theorem x_iload (C : Cx E p s m args meth c own cc nL) {i : Nat} {x : Int32} (hd : decode cc pc = .ok (.iload i, 2)) (hl : L[i]? = some (some (.int x))) (kk : X E p l e R s m args below meth c Q nL kc ks σ (pc + 2) L (.int x :: st)) : X E p l e R s m args below meth c Q nL kc ks σ (pc) L (st) := fun H locs ls hH hlo hL => lv_iload C.1 C.2.1 hd (hL.2.2 _ _ hl) (kk H locs ls hH hlo hL)
theorem x_lload_n (C : Cx E p s m args meth c own cc nL) {k : Fin 4} {i : Nat} {x : Int64} (hd : decode cc pc = .ok (.lload_n k, 1)) (hi : (k : Nat) = i) (hl : L[i]? = some (some (.long x))) (kk : X E p l e R s m args below meth c Q nL kc ks σ (pc + 1) L (.long x :: st)) : X E p l e R s m args below meth c Q nL kc ks σ (pc) L (st) := fun H locs ls hH hlo hL => lv_lload_n C.1 C.2.1 hd hi (hL.2.2 _ _ hl) (kk H locs ls hH hlo hL)
theorem x_lload (C : Cx E p s m args meth c own cc nL) {i : Nat} {x : Int64} (hd : decode cc pc = .ok (.lload i, 2)) (hl : L[i]? = some (some (.long x))) (kk : X E p l e R s m args below meth c Q nL kc ks σ (pc + 2) L (.long x :: st)) : X E p l e R s m args below meth c Q nL kc ks σ (pc) L (st) := fun H locs ls hH hlo hL => lv_lload C.1 C.2.1 hd (hL.2.2 _ _ hl) (kk H locs ls hH hlo hL)
theorem x_aload_n (C : Cx E p s m args meth c own cc nL) {k : Fin 4} {i : Nat} {x : Nat} (hd : decode cc pc = .ok (.aload_n k, 1)) (hi : (k : Nat) = i) (hl : L[i]? = some (some (.ref x))) (kk : X E p l e R s m args below meth c Q nL kc ks σ (pc + 1) L (.ref x :: st)) : X E p l e R s m args below meth c Q nL kc ks σ (pc) L (st) := fun H locs ls hH hlo hL => lv_aload_n C.1 C.2.1 hd hi (hL.2.2 _ _ hl) (kk H locs ls hH hlo hL)
theorem x_aload (C : Cx E p s m args meth c own cc nL) {i : Nat} {x : Nat} (hd : decode cc pc = .ok (.aload i, 2)) (hl : L[i]? = some (some (.ref x))) (kk : X E p l e R s m args below meth c Q nL kc ks σ (pc + 2) L (.ref x :: st)) : X E p l e R s m args below meth c Q nL kc ks σ (pc) L (st) := fun H locs ls hH hlo hL => lv_aload C.1 C.2.1 hd (hL.2.2 _ _ hl) (kk H locs ls hH hlo hL)
theorem x_iconst (C : Cx E p s m args meth c own cc nL) {n : Int} {v : Int32} (hd : decode cc pc = .ok (.iconst n, 1)) (hv : Int32.ofInt n = v) (kk : X E p l e R s m args below meth c Q nL kc ks σ (pc + 1) L (.int v :: st)) : X E p l e R s m args below meth c Q nL kc ks σ (pc) L (st) := fun H locs ls hH hlo hL => lv_iconst C.1 C.2.1 hd hv (kk H locs ls hH hlo hL)
theorem x_lconst (C : Cx E p s m args meth c own cc nL) {n : Fin 2} {v : Int64} (hd : decode cc pc = .ok (.lconst n, 1)) (hv : Int64.ofNat (n : Nat) = v) (kk : X E p l e R s m args below meth c Q nL kc ks σ (pc + 1) L (.long v :: st)) : X E p l e R s m args below meth c Q nL kc ks σ (pc) L (st) := fun H locs ls hH hlo hL => lv_lconst C.1 C.2.1 hd hv (kk H locs ls hH hlo hL)
theorem x_bipush (C : Cx E p s m args meth c own cc nL) {n : Int} {v : Int32} (hd : decode cc pc = .ok (.bipush n, 2)) (hv : (Int8.ofInt n).toInt32 = v) (kk : X E p l e R s m args below meth c Q nL kc ks σ (pc + 2) L (.int v :: st)) : X E p l e R s m args below meth c Q nL kc ks σ (pc) L (st) := fun H locs ls hH hlo hL => lv_bipush C.1 C.2.1 hd hv (kk H locs ls hH hlo hL)
theorem x_sipush (C : Cx E p s m args meth c own cc nL) {n : Int} {v : Int32} (hd : decode cc pc = .ok (.sipush n, 3)) (hv : (Int16.ofInt n).toInt32 = v) (kk : X E p l e R s m args below meth c Q nL kc ks σ (pc + 3) L (.int v :: st)) : X E p l e R s m args below meth c Q nL kc ks σ (pc) L (st) := fun H locs ls hH hlo hL => lv_sipush C.1 C.2.1 hd hv (kk H locs ls hH hlo hL)
theorem x_ldc (C : Cx E p s m args meth c own cc nL) {idx : Nat} {v : Int32} (hc : Cond.constant own idx v ∈ tblG) (hd : decode cc pc = .ok (.ldc idx, 2)) (kk : X E p l e R s m args below meth c Q nL kc ks σ (pc + 2) L (.int v :: st)) : X E p l e R s m args below meth c Q nL kc ks σ (pc) L (st) := fun H locs ls hH hlo hL => lv_ldc C.1 C.2.1 C.2.2.2.1 (C.2.2.2.2.1 _ hc) hd (kk H locs ls hH hlo hL)
theorem x_ldc_w (C : Cx E p s m args meth c own cc nL) {idx : Nat} {v : Int32} (hc : Cond.constant own idx v ∈ tblG) (hd : decode cc pc = .ok (.ldc_w idx, 3)) (kk : X E p l e R s m args below meth c Q nL kc ks σ (pc + 3) L (.int v :: st)) : X E p l e R s m args below meth c Q nL kc ks σ (pc) L (st) := fun H locs ls hH hlo hL => lv_ldcw C.1 C.2.1 C.2.2.2.1 (C.2.2.2.2.1 _ hc) hd (kk H locs ls hH hlo hL)
theorem x_ldc2_w (C : Cx E p s m args meth c own cc nL) {idx : Nat} {v : Int64} (hc : Cond.constantLong own idx v ∈ tblG) (hd : decode cc pc = .ok (.ldc2_w idx, 3)) (kk : X E p l e R s m args below meth c Q nL kc ks σ (pc + 3) L (.long v :: st)) : X E p l e R s m args below meth c Q nL kc ks σ (pc) L (st) := fun H locs ls hH hlo hL => lv_ldc2 C.1 C.2.1 C.2.2.2.1 (C.2.2.2.2.1 _ hc) hd (kk H locs ls hH hlo hL)
theorem x_ldcS (C : Cx E p s m args meth c own cc nL) {idx q : Nat} {tx : String} (hZ : vk_R own idx tx q s) (hd : decode cc pc = .ok (.ldc idx, 2)) (kk : X E p l e R s m args below meth c Q nL kc ks σ (pc + 2) L (.ref q :: st)) : X E p l e R s m args below meth c Q nL kc ks σ (pc) L (st) := fun H locs ls hH hlo hL => va_ldcS C.1 C.2.1 C.2.2.2.1 hZ hd (kk H locs ls hH hlo hL)
theorem x_iadd (C : Cx E p s m args meth c own cc nL) {x y : Int32} (hd : decode cc pc = .ok (.iadd, 1)) (kk : X E p l e R s m args below meth c Q nL kc ks σ (pc + 1) L (.int (x + y) :: st)) : X E p l e R s m args below meth c Q nL kc ks σ (pc) L (.int y :: .int x :: st) := fun H locs ls hH hlo hL => lv_iadd C.1 C.2.1 hd (kk H locs ls hH hlo hL)
theorem x_isub (C : Cx E p s m args meth c own cc nL) {x y : Int32} (hd : decode cc pc = .ok (.isub, 1)) (kk : X E p l e R s m args below meth c Q nL kc ks σ (pc + 1) L (.int (x - y) :: st)) : X E p l e R s m args below meth c Q nL kc ks σ (pc) L (.int y :: .int x :: st) := fun H locs ls hH hlo hL => lv_isub C.1 C.2.1 hd (kk H locs ls hH hlo hL)
theorem x_imul (C : Cx E p s m args meth c own cc nL) {x y : Int32} (hd : decode cc pc = .ok (.imul, 1)) (kk : X E p l e R s m args below meth c Q nL kc ks σ (pc + 1) L (.int (x * y) :: st)) : X E p l e R s m args below meth c Q nL kc ks σ (pc) L (.int y :: .int x :: st) := fun H locs ls hH hlo hL => lv_imul C.1 C.2.1 hd (kk H locs ls hH hlo hL)
theorem x_iand (C : Cx E p s m args meth c own cc nL) {x y : Int32} (hd : decode cc pc = .ok (.iand, 1)) (kk : X E p l e R s m args below meth c Q nL kc ks σ (pc + 1) L (.int (x &&& y) :: st)) : X E p l e R s m args below meth c Q nL kc ks σ (pc) L (.int y :: .int x :: st) := fun H locs ls hH hlo hL => lv_iand C.1 C.2.1 hd (kk H locs ls hH hlo hL)
theorem x_ior (C : Cx E p s m args meth c own cc nL) {x y : Int32} (hd : decode cc pc = .ok (.ior, 1)) (kk : X E p l e R s m args below meth c Q nL kc ks σ (pc + 1) L (.int (x ||| y) :: st)) : X E p l e R s m args below meth c Q nL kc ks σ (pc) L (.int y :: .int x :: st) := fun H locs ls hH hlo hL => lv_ior C.1 C.2.1 hd (kk H locs ls hH hlo hL)
theorem x_ladd (C : Cx E p s m args meth c own cc nL) {x y : Int64} (hd : decode cc pc = .ok (.ladd, 1)) (kk : X E p l e R s m args below meth c Q nL kc ks σ (pc + 1) L (.long (x + y) :: st)) : X E p l e R s m args below meth c Q nL kc ks σ (pc) L (.long y :: .long x :: st) := fun H locs ls hH hlo hL => lv_ladd C.1 C.2.1 hd (kk H locs ls hH hlo hL)
theorem x_lsub (C : Cx E p s m args meth c own cc nL) {x y : Int64} (hd : decode cc pc = .ok (.lsub, 1)) (kk : X E p l e R s m args below meth c Q nL kc ks σ (pc + 1) L (.long (x - y) :: st)) : X E p l e R s m args below meth c Q nL kc ks σ (pc) L (.long y :: .long x :: st) := fun H locs ls hH hlo hL => lv_lsub C.1 C.2.1 hd (kk H locs ls hH hlo hL)
theorem x_lmul (C : Cx E p s m args meth c own cc nL) {x y : Int64} (hd : decode cc pc = .ok (.lmul, 1)) (kk : X E p l e R s m args below meth c Q nL kc ks σ (pc + 1) L (.long (x * y) :: st)) : X E p l e R s m args below meth c Q nL kc ks σ (pc) L (.long y :: .long x :: st) := fun H locs ls hH hlo hL => lv_lmul C.1 C.2.1 hd (kk H locs ls hH hlo hL)
theorem x_ishl (C : Cx E p s m args meth c own cc nL) {x y : Int32} (hd : decode cc pc = .ok (.ishl, 1)) (kk : X E p l e R s m args below meth c Q nL kc ks σ (pc + 1) L (.int (x <<< (y &&& 31)) :: st)) : X E p l e R s m args below meth c Q nL kc ks σ (pc) L (.int y :: .int x :: st) := fun H locs ls hH hlo hL => lv_ishl C.1 C.2.1 hd (kk H locs ls hH hlo hL)
theorem x_ishr (C : Cx E p s m args meth c own cc nL) {x y : Int32} (hd : decode cc pc = .ok (.ishr, 1)) (kk : X E p l e R s m args below meth c Q nL kc ks σ (pc + 1) L (.int (x >>> (y &&& 31)) :: st)) : X E p l e R s m args below meth c Q nL kc ks σ (pc) L (.int y :: .int x :: st) := fun H locs ls hH hlo hL => lv_ishr C.1 C.2.1 hd (kk H locs ls hH hlo hL)
theorem x_ineg (C : Cx E p s m args meth c own cc nL) {x : Int32} (hd : decode cc pc = .ok (.ineg, 1)) (kk : X E p l e R s m args below meth c Q nL kc ks σ (pc + 1) L (.int (-x) :: st)) : X E p l e R s m args below meth c Q nL kc ks σ (pc) L (.int x :: st) := fun H locs ls hH hlo hL => lv_ineg C.1 C.2.1 hd (kk H locs ls hH hlo hL)
theorem x_lneg (C : Cx E p s m args meth c own cc nL) {x : Int64} (hd : decode cc pc = .ok (.lneg, 1)) (kk : X E p l e R s m args below meth c Q nL kc ks σ (pc + 1) L (.long (-x) :: st)) : X E p l e R s m args below meth c Q nL kc ks σ (pc) L (.long x :: st) := fun H locs ls hH hlo hL => lv_lneg C.1 C.2.1 hd (kk H locs ls hH hlo hL)
theorem x_idiv (C : Cx E p s m args meth c own cc nL) {x y : Int32} (hd : decode cc pc = .ok (.idiv, 1)) (hne : ¬ y = 0) (kk : X E p l e R s m args below meth c Q nL kc ks σ (pc + 1) L (.int (x / y) :: st)) : X E p l e R s m args below meth c Q nL kc ks σ (pc) L (.int y :: .int x :: st) := fun H locs ls hH hlo hL => lv_idiv C.1 C.2.1 hd hne (kk H locs ls hH hlo hL)
theorem x_irem (C : Cx E p s m args meth c own cc nL) {x y : Int32} (hd : decode cc pc = .ok (.irem, 1)) (hne : ¬ y = 0) (kk : X E p l e R s m args below meth c Q nL kc ks σ (pc + 1) L (.int (x - x / y * y) :: st)) : X E p l e R s m args below meth c Q nL kc ks σ (pc) L (.int y :: .int x :: st) := fun H locs ls hH hlo hL => lv_irem C.1 C.2.1 hd hne (kk H locs ls hH hlo hL)
theorem x_ldiv (C : Cx E p s m args meth c own cc nL) {x y : Int64} (hd : decode cc pc = .ok (.ldiv, 1)) (hne : ¬ y = 0) (kk : X E p l e R s m args below meth c Q nL kc ks σ (pc + 1) L (.long (x / y) :: st)) : X E p l e R s m args below meth c Q nL kc ks σ (pc) L (.long y :: .long x :: st) := fun H locs ls hH hlo hL => lv_ldiv C.1 C.2.1 hd hne (kk H locs ls hH hlo hL)
theorem x_lrem (C : Cx E p s m args meth c own cc nL) {x y : Int64} (hd : decode cc pc = .ok (.lrem, 1)) (hne : ¬ y = 0) (kk : X E p l e R s m args below meth c Q nL kc ks σ (pc + 1) L (.long (x - x / y * y) :: st)) : X E p l e R s m args below meth c Q nL kc ks σ (pc) L (.long y :: .long x :: st) := fun H locs ls hH hlo hL => lv_lrem C.1 C.2.1 hd hne (kk H locs ls hH hlo hL)
theorem x_i2l (C : Cx E p s m args meth c own cc nL) {x : Int32} (hd : decode cc pc = .ok (.i2l, 1)) (kk : X E p l e R s m args below meth c Q nL kc ks σ (pc + 1) L (.long x.toInt64 :: st)) : X E p l e R s m args below meth c Q nL kc ks σ (pc) L (.int x :: st) := fun H locs ls hH hlo hL => lv_i2l C.1 C.2.1 hd rfl (kk H locs ls hH hlo hL)
theorem x_l2i (C : Cx E p s m args meth c own cc nL) {x : Int64} (hd : decode cc pc = .ok (.l2i, 1)) (kk : X E p l e R s m args below meth c Q nL kc ks σ (pc + 1) L (.int x.toInt32 :: st)) : X E p l e R s m args below meth c Q nL kc ks σ (pc) L (.long x :: st) := fun H locs ls hH hlo hL => lv_l2i C.1 C.2.1 hd rfl (kk H locs ls hH hlo hL)
theorem x_i2c (C : Cx E p s m args meth c own cc nL) {x : Int32} (hd : decode cc pc = .ok (.i2c, 1)) (kk : X E p l e R s m args below meth c Q nL kc ks σ (pc + 1) L (.int (x.toUInt32 % 65536).toInt32 :: st)) : X E p l e R s m args below meth c Q nL kc ks σ (pc) L (.int x :: st) := fun H locs ls hH hlo hL => lv_i2c C.1 C.2.1 hd rfl (kk H locs ls hH hlo hL)
theorem x_dup (C : Cx E p s m args meth c own cc nL) {v : Value} (hd : decode cc pc = .ok (.dup, 1)) (hv : v.category = 1) (kk : X E p l e R s m args below meth c Q nL kc ks σ (pc + 1) L (v :: v :: st)) : X E p l e R s m args below meth c Q nL kc ks σ (pc) L (v :: st) := fun H locs ls hH hlo hL => lv_dup C.1 C.2.1 hd hv (kk H locs ls hH hlo hL)
theorem x_dup2 (C : Cx E p s m args meth c own cc nL) {v w : Value} (hd : decode cc pc = .ok (.dup2, 1)) (hv : v.category = 1) (hw : w.category = 1) (kk : X E p l e R s m args below meth c Q nL kc ks σ (pc + 1) L (w :: v :: w :: v :: st)) : X E p l e R s m args below meth c Q nL kc ks σ (pc) L (w :: v :: st) := fun H locs ls hH hlo hL => lv_dup2_11 C.1 C.2.1 hd hw hv (kk H locs ls hH hlo hL)
theorem x_pop (C : Cx E p s m args meth c own cc nL) {v : Value} (hd : decode cc pc = .ok (.pop, 1)) (hv : v.category = 1) (kk : X E p l e R s m args below meth c Q nL kc ks σ (pc + 1) L (st)) : X E p l e R s m args below meth c Q nL kc ks σ (pc) L (v :: st) := fun H locs ls hH hlo hL => lv_pop C.1 C.2.1 hd hv (kk H locs ls hH hlo hL)
theorem x_istore_n (C : Cx E p s m args meth c own cc nL) {k : Fin 4} {i : Nat} {x : Int32} {M : List (Option Value)} (hd : decode cc pc = .ok (.istore_n k, 1)) (hi : (k : Nat) = i) (hn : i < nL) (hM : st1 L i (.int x) = M) (kk : X E p l e R s m args below meth c Q nL kc ks σ (pc + 1) M (st)) : X E p l e R s m args below meth c Q nL kc ks σ (pc) L (.int x :: st) := fun H locs ls hH hlo hL => lv_istore_n C.1 C.2.1 hd hi hL.has hn rfl (fun ls2 h2 => kk H locs ls2 hH hlo (hM ▸ xL.of h2 st1_of))
theorem x_istore (C : Cx E p s m args meth c own cc nL) {i : Nat} {x : Int32} {M : List (Option Value)} (hd : decode cc pc = .ok (.istore i, 2)) (hn : i < nL) (hM : st1 L i (.int x) = M) (kk : X E p l e R s m args below meth c Q nL kc ks σ (pc + 2) M (st)) : X E p l e R s m args below meth c Q nL kc ks σ (pc) L (.int x :: st) := fun H locs ls hH hlo hL => lv_istore C.1 C.2.1 hd hL.has hn rfl (fun ls2 h2 => kk H locs ls2 hH hlo (hM ▸ xL.of h2 st1_of))
theorem x_lstore_n (C : Cx E p s m args meth c own cc nL) {k : Fin 4} {i : Nat} {x : Int64} {M : List (Option Value)} (hd : decode cc pc = .ok (.lstore_n k, 1)) (hi : (k : Nat) = i) (hn : i + 1 < nL) (hM : st2 L i (.long x) = M) (kk : X E p l e R s m args below meth c Q nL kc ks σ (pc + 1) M (st)) : X E p l e R s m args below meth c Q nL kc ks σ (pc) L (.long x :: st) := fun H locs ls hH hlo hL => lv_lstore_n C.1 C.2.1 hd hi hL.has hn rfl (fun ls2 h2 => kk H locs ls2 hH hlo (hM ▸ xL.of h2 st2_of))
theorem x_lstore (C : Cx E p s m args meth c own cc nL) {i : Nat} {x : Int64} {M : List (Option Value)} (hd : decode cc pc = .ok (.lstore i, 2)) (hn : i + 1 < nL) (hM : st2 L i (.long x) = M) (kk : X E p l e R s m args below meth c Q nL kc ks σ (pc + 2) M (st)) : X E p l e R s m args below meth c Q nL kc ks σ (pc) L (.long x :: st) := fun H locs ls hH hlo hL => lv_lstore C.1 C.2.1 hd hL.has hn rfl (fun ls2 h2 => kk H locs ls2 hH hlo (hM ▸ xL.of h2 st2_of))
theorem x_astore_n (C : Cx E p s m args meth c own cc nL) {k : Fin 4} {i : Nat} {x : Nat} {M : List (Option Value)} (hd : decode cc pc = .ok (.astore_n k, 1)) (hi : (k : Nat) = i) (hn : i < nL) (hM : st1 L i (.ref x) = M) (kk : X E p l e R s m args below meth c Q nL kc ks σ (pc + 1) M (st)) : X E p l e R s m args below meth c Q nL kc ks σ (pc) L (.ref x :: st) := fun H locs ls hH hlo hL => lv_astore_n C.1 C.2.1 hd hi hL.has hn rfl (fun ls2 h2 => kk H locs ls2 hH hlo (hM ▸ xL.of h2 st1_of))
theorem x_astore (C : Cx E p s m args meth c own cc nL) {i : Nat} {x : Nat} {M : List (Option Value)} (hd : decode cc pc = .ok (.astore i, 2)) (hn : i < nL) (hM : st1 L i (.ref x) = M) (kk : X E p l e R s m args below meth c Q nL kc ks σ (pc + 2) M (st)) : X E p l e R s m args below meth c Q nL kc ks σ (pc) L (.ref x :: st) := fun H locs ls hH hlo hL => lv_astore C.1 C.2.1 hd hL.has hn rfl (fun ls2 h2 => kk H locs ls2 hH hlo (hM ▸ xL.of h2 st1_of))
theorem x_iinc (C : Cx E p s m args meth c own cc nL) {i : Nat} {n : Int} {x v : Int32} {M : List (Option Value)} (hd : decode cc pc = .ok (.iinc i n, 3)) (hl : L[i]? = some (some (.int x))) (hv : Int32.ofInt n = v) (hn : i < nL) (hM : st1 L i (.int (x + v)) = M) (kk : X E p l e R s m args below meth c Q nL kc ks σ (pc + 3) M (st)) : X E p l e R s m args below meth c Q nL kc ks σ (pc) L (st) := fun H locs ls hH hlo hL => by
  obtain ⟨k, hk⟩ := List.getElem?_of_mem (mem_xls.mpr hl)
  exact lv_iinc C.1 C.2.1 hd hL.has hk (by rw [hv]) hn rfl (fun ls2 h2 => kk H locs ls2 hH hlo (hM ▸ xL.of h2 st1_of))
theorem x_if_eq (C : Cx E p s m args meth c own cc nL) {x : Int32} {o : Int} {tgt : Nat} (hd : decode cc pc = .ok (.ifCond .eq o, 3)) (ht : (pc : Int) + o = (tgt : Int)) (kt : x = 0 → X E p l e R s m args below meth c Q nL kc ks σ (tgt) L (st)) (kf : ¬ (x = 0) → X E p l e R s m args below meth c Q nL kc ks σ (pc + 3) L (st)) : X E p l e R s m args below meth c Q nL kc ks σ (pc) L (.int x :: st) := fun H locs ls hH hlo hL => lv_if_eq C.1 C.2.1 hd ht (fun h => kt h H locs ls hH hlo hL) (fun h => kf h H locs ls hH hlo hL)
theorem x_icmp_eq (C : Cx E p s m args meth c own cc nL) {x y : Int32} {o : Int} {tgt : Nat} (hd : decode cc pc = .ok (.if_icmp .eq o, 3)) (ht : (pc : Int) + o = (tgt : Int)) (kt : x = y → X E p l e R s m args below meth c Q nL kc ks σ (tgt) L (st)) (kf : ¬ (x = y) → X E p l e R s m args below meth c Q nL kc ks σ (pc + 3) L (st)) : X E p l e R s m args below meth c Q nL kc ks σ (pc) L (.int y :: .int x :: st) := fun H locs ls hH hlo hL => lv_icmp_eq C.1 C.2.1 hd ht (fun h => kt h H locs ls hH hlo hL) (fun h => kf h H locs ls hH hlo hL)
theorem x_if_lt (C : Cx E p s m args meth c own cc nL) {x : Int32} {o : Int} {tgt : Nat} (hd : decode cc pc = .ok (.ifCond .lt o, 3)) (ht : (pc : Int) + o = (tgt : Int)) (kt : x < 0 → X E p l e R s m args below meth c Q nL kc ks σ (tgt) L (st)) (kf : ¬ (x < 0) → X E p l e R s m args below meth c Q nL kc ks σ (pc + 3) L (st)) : X E p l e R s m args below meth c Q nL kc ks σ (pc) L (.int x :: st) := fun H locs ls hH hlo hL => lv_if_lt C.1 C.2.1 hd ht (fun h => kt h H locs ls hH hlo hL) (fun h => kf h H locs ls hH hlo hL)
theorem x_icmp_lt (C : Cx E p s m args meth c own cc nL) {x y : Int32} {o : Int} {tgt : Nat} (hd : decode cc pc = .ok (.if_icmp .lt o, 3)) (ht : (pc : Int) + o = (tgt : Int)) (kt : x < y → X E p l e R s m args below meth c Q nL kc ks σ (tgt) L (st)) (kf : ¬ (x < y) → X E p l e R s m args below meth c Q nL kc ks σ (pc + 3) L (st)) : X E p l e R s m args below meth c Q nL kc ks σ (pc) L (.int y :: .int x :: st) := fun H locs ls hH hlo hL => lv_icmp_lt C.1 C.2.1 hd ht (fun h => kt h H locs ls hH hlo hL) (fun h => kf h H locs ls hH hlo hL)
theorem x_if_ge (C : Cx E p s m args meth c own cc nL) {x : Int32} {o : Int} {tgt : Nat} (hd : decode cc pc = .ok (.ifCond .ge o, 3)) (ht : (pc : Int) + o = (tgt : Int)) (kt : 0 ≤ x → X E p l e R s m args below meth c Q nL kc ks σ (tgt) L (st)) (kf : ¬ (0 ≤ x) → X E p l e R s m args below meth c Q nL kc ks σ (pc + 3) L (st)) : X E p l e R s m args below meth c Q nL kc ks σ (pc) L (.int x :: st) := fun H locs ls hH hlo hL => lv_if_ge C.1 C.2.1 hd ht (fun h => kt h H locs ls hH hlo hL) (fun h => kf h H locs ls hH hlo hL)
theorem x_icmp_ge (C : Cx E p s m args meth c own cc nL) {x y : Int32} {o : Int} {tgt : Nat} (hd : decode cc pc = .ok (.if_icmp .ge o, 3)) (ht : (pc : Int) + o = (tgt : Int)) (kt : y ≤ x → X E p l e R s m args below meth c Q nL kc ks σ (tgt) L (st)) (kf : ¬ (y ≤ x) → X E p l e R s m args below meth c Q nL kc ks σ (pc + 3) L (st)) : X E p l e R s m args below meth c Q nL kc ks σ (pc) L (.int y :: .int x :: st) := fun H locs ls hH hlo hL => lv_icmp_ge C.1 C.2.1 hd ht (fun h => kt h H locs ls hH hlo hL) (fun h => kf h H locs ls hH hlo hL)
theorem x_if_gt (C : Cx E p s m args meth c own cc nL) {x : Int32} {o : Int} {tgt : Nat} (hd : decode cc pc = .ok (.ifCond .gt o, 3)) (ht : (pc : Int) + o = (tgt : Int)) (kt : 0 < x → X E p l e R s m args below meth c Q nL kc ks σ (tgt) L (st)) (kf : ¬ (0 < x) → X E p l e R s m args below meth c Q nL kc ks σ (pc + 3) L (st)) : X E p l e R s m args below meth c Q nL kc ks σ (pc) L (.int x :: st) := fun H locs ls hH hlo hL => lv_if_gt C.1 C.2.1 hd ht (fun h => kt h H locs ls hH hlo hL) (fun h => kf h H locs ls hH hlo hL)
theorem x_icmp_gt (C : Cx E p s m args meth c own cc nL) {x y : Int32} {o : Int} {tgt : Nat} (hd : decode cc pc = .ok (.if_icmp .gt o, 3)) (ht : (pc : Int) + o = (tgt : Int)) (kt : y < x → X E p l e R s m args below meth c Q nL kc ks σ (tgt) L (st)) (kf : ¬ (y < x) → X E p l e R s m args below meth c Q nL kc ks σ (pc + 3) L (st)) : X E p l e R s m args below meth c Q nL kc ks σ (pc) L (.int y :: .int x :: st) := fun H locs ls hH hlo hL => lv_icmp_gt C.1 C.2.1 hd ht (fun h => kt h H locs ls hH hlo hL) (fun h => kf h H locs ls hH hlo hL)
theorem x_if_le (C : Cx E p s m args meth c own cc nL) {x : Int32} {o : Int} {tgt : Nat} (hd : decode cc pc = .ok (.ifCond .le o, 3)) (ht : (pc : Int) + o = (tgt : Int)) (kt : x ≤ 0 → X E p l e R s m args below meth c Q nL kc ks σ (tgt) L (st)) (kf : ¬ (x ≤ 0) → X E p l e R s m args below meth c Q nL kc ks σ (pc + 3) L (st)) : X E p l e R s m args below meth c Q nL kc ks σ (pc) L (.int x :: st) := fun H locs ls hH hlo hL => lv_if_le C.1 C.2.1 hd ht (fun h => kt h H locs ls hH hlo hL) (fun h => kf h H locs ls hH hlo hL)
theorem x_icmp_le (C : Cx E p s m args meth c own cc nL) {x y : Int32} {o : Int} {tgt : Nat} (hd : decode cc pc = .ok (.if_icmp .le o, 3)) (ht : (pc : Int) + o = (tgt : Int)) (kt : x ≤ y → X E p l e R s m args below meth c Q nL kc ks σ (tgt) L (st)) (kf : ¬ (x ≤ y) → X E p l e R s m args below meth c Q nL kc ks σ (pc + 3) L (st)) : X E p l e R s m args below meth c Q nL kc ks σ (pc) L (.int y :: .int x :: st) := fun H locs ls hH hlo hL => lv_icmp_le C.1 C.2.1 hd ht (fun h => kt h H locs ls hH hlo hL) (fun h => kf h H locs ls hH hlo hL)
theorem x_if_ne (C : Cx E p s m args meth c own cc nL) {x : Int32} {o : Int} {tgt : Nat} (hd : decode cc pc = .ok (.ifCond .ne o, 3)) (ht : (pc : Int) + o = (tgt : Int)) (kf : x = 0 → X E p l e R s m args below meth c Q nL kc ks σ (pc + 3) L (st)) (kt : ¬ (x = 0) → X E p l e R s m args below meth c Q nL kc ks σ (tgt) L (st)) : X E p l e R s m args below meth c Q nL kc ks σ (pc) L (.int x :: st) := fun H locs ls hH hlo hL => lv_if_ne C.1 C.2.1 hd ht (fun h => kt h H locs ls hH hlo hL) (fun h => kf h H locs ls hH hlo hL)
theorem x_icmp_ne (C : Cx E p s m args meth c own cc nL) {x y : Int32} {o : Int} {tgt : Nat} (hd : decode cc pc = .ok (.if_icmp .ne o, 3)) (ht : (pc : Int) + o = (tgt : Int)) (kf : x = y → X E p l e R s m args below meth c Q nL kc ks σ (pc + 3) L (st)) (kt : ¬ (x = y) → X E p l e R s m args below meth c Q nL kc ks σ (tgt) L (st)) : X E p l e R s m args below meth c Q nL kc ks σ (pc) L (.int y :: .int x :: st) := fun H locs ls hH hlo hL => lv_icmp_ne C.1 C.2.1 hd ht (fun h => kt h H locs ls hH hlo hL) (fun h => kf h H locs ls hH hlo hL)
theorem x_goto (C : Cx E p s m args meth c own cc nL) {o : Int} {tgt : Nat} (hd : decode cc pc = .ok (.goto o, 3)) (ht : (pc : Int) + o = (tgt : Int)) (kk : X E p l e R s m args below meth c Q nL kc ks σ tgt L st) : X E p l e R s m args below meth c Q nL kc ks σ pc L st := fun H locs ls hH hlo hL => lv_goto C.1 C.2.1 hd ht (kk H locs ls hH hlo hL)
/-- a long comparison stays what it is: the branch behind it asks it -/
theorem x_lcmp (C : Cx E p s m args meth c own cc nL) {x y : Int64} (hd : decode cc pc = .ok (.lcmp, 1)) (kk : X E p l e R s m args below meth c Q nL kc ks σ (pc + 1) L (.int (lg_cmp x y) :: st)) : X E p l e R s m args below meth c Q nL kc ks σ pc L (.long y :: .long x :: st) := fun H locs ls hH hlo hL => W.lcmp C.1 C.2.1 hd (kk H locs ls hH hlo hL)
theorem x_switchOut (C : Cx E p s m args meth c own cc nL) {dflt lo hi : Int} {offs : Array Int} {len : Nat} {x : Int32} {tgt : Nat} (hd : decode cc pc = .ok (.tableswitch dflt lo hi offs, len)) (h : x.toInt < lo ∨ hi < x.toInt) (ht : (pc : Int) + dflt = (tgt : Int)) (kk : X E p l e R s m args below meth c Q nL kc ks σ tgt L st) : X E p l e R s m args below meth c Q nL kc ks σ pc L (.int x :: st) := fun H locs ls hH hlo hL => lv_tableOut C.1 C.2.1 hd h ht (kk H locs ls hH hlo hL)
theorem x_switchIn (C : Cx E p s m args meth c own cc nL) {dflt lo hi : Int} {offs : Array Int} {len : Nat} {x : Int32} {o : Int} {tgt : Nat} (hd : decode cc pc = .ok (.tableswitch dflt lo hi offs, len)) (h1 : ¬ x.toInt < lo) (h2 : ¬ hi < x.toInt) (ho : offs[(x.toInt - lo).toNat]? = some o) (ht : (pc : Int) + o = (tgt : Int)) (kk : X E p l e R s m args below meth c Q nL kc ks σ tgt L st) : X E p l e R s m args below meth c Q nL kc ks σ pc L (.int x :: st) := fun H locs ls hH hlo hL => lv_tableIn C.1 C.2.1 hd h1 h2 ho ht (kk H locs ls hH hlo hL)
theorem x_lookup (C : Cx E p s m args meth c own cc nL) {dflt : Int} {ps : Array (Int × Int)} {len : Nat} {x : Int32} {o : Int} {tgt : Nat} (hd : decode cc pc = .ok (.lookupswitch dflt ps, len)) (hp : (ps.toList.zip (ps.toList.drop 1)).all (fun (a, next) => a.1 < next.1) = true) (ho : Op.lookupswitch.offset ps.toList dflt x.toInt = o) (ht : (pc : Int) + o = (tgt : Int)) (kk : X E p l e R s m args below meth c Q nL kc ks σ tgt L st) : X E p l e R s m args below meth c Q nL kc ks σ pc L (.int x :: st) := fun H locs ls hH hlo hL => lv_lookup C.1 C.2.1 hd hp ho ht (kk H locs ls hH hlo hL)
theorem x_acmp_eq (C : Cx E p s m args meth c own cc nL) {x y : Nat} {o : Int} {tgt : Nat} (hd : decode cc pc = .ok (.if_acmp .eq o, 3)) (ht : (pc : Int) + o = (tgt : Int)) (kt : x = y → X E p l e R s m args below meth c Q nL kc ks σ tgt L st) (kf : ¬ x = y → X E p l e R s m args below meth c Q nL kc ks σ (pc + 3) L st) : X E p l e R s m args below meth c Q nL kc ks σ pc L (.ref y :: .ref x :: st) := fun H locs ls hH hlo hL => lv_acmp_eq (rx := some x) (ry := some y) C.1 C.2.1 hd ht (fun h => kt (Option.some.inj h) H locs ls hH hlo hL) (fun h => kf (fun z => h (congrArg some z)) H locs ls hH hlo hL)
theorem x_acmp_ne (C : Cx E p s m args meth c own cc nL) {x y : Nat} {o : Int} {tgt : Nat} (hd : decode cc pc = .ok (.if_acmp .ne o, 3)) (ht : (pc : Int) + o = (tgt : Int)) (kf : x = y → X E p l e R s m args below meth c Q nL kc ks σ (pc + 3) L st) (kt : ¬ x = y → X E p l e R s m args below meth c Q nL kc ks σ tgt L st) : X E p l e R s m args below meth c Q nL kc ks σ pc L (.ref y :: .ref x :: st) := fun H locs ls hH hlo hL => lv_acmp_ne (rx := some x) (ry := some y) C.1 C.2.1 hd ht (fun h => kt (fun z => h (congrArg some z)) H locs ls hH hlo hL) (fun h => kf (Option.some.inj h) H locs ls hH hlo hL)
/-! checks: what a row needs of the place that it reads or writes -/
def inb (i : Int32) (n : Nat) : Bool := decide (0 ≤ i) && decide (i.toNatClampNeg < n)
def ckO (σ : Sg) (ci a : Nat) : Bool := decide (shp a = (1, ci, 0)) && decide (a < gN σ)
def ckI (σ : Sg) (a : Nat) (i : Int32) : Bool := decide ((shp a).1 = 2) && decide (a < gN σ) && inb i (shp a).2.1
def ckZ (σ : Sg) (a : Nat) (i : Int32) : Bool := decide ((shp a).1 = 3) && decide (a < gN σ) && inb i (shp a).2.1
def ckJ (σ : Sg) (a : Nat) (i : Int32) : Bool := decide ((shp a).1 = 4) && decide (a < gN σ) && inb i (shp a).2.1
def ckG (σ : Sg) (a : Nat) (i : Int32) : Bool := decide ((shp a).1 = 5) && decide (a < gN σ) && inb i (shp a).2.1
def ckR (σ : Sg) (g i : Nat) (j : Int32) : Bool := decide ((shp g).1 = 5) && decide (g < gN σ) && decide (i < (shp g).2.1) && inb j (shp g).2.2
def ckL (σ : Sg) (a : Nat) : Bool := decide (1 < (shp a).1) && decide (a < gN σ)
def ckV (r : Nat) : Bool := decide (r ≠ 0)
def ckN (x : Int32) : Bool := decide (x ≠ 0)
def ckM (x : Int64) : Bool := decide (x ≠ 0)
def ck01 (x : Int32) : Bool := decide (x = 0) || decide (x = 1)
theorem inb_s {i : Int32} {n : Nat} (h : inb i n = true) : vp_in i n ∧ i.toNatClampNeg < n := by
  unfold inb at h
  simp only [Bool.and_eq_true, decide_eq_true_eq] at h
  refine ⟨fun q => ?_, h.2⟩
  rcases q with q | q
  · exact absurd h.1 (by simpa using q)
  · omega
theorem ckO_s {ci a : Nat} (h : ckO σ ci a = true) : shp a = (1, ci, 0) ∧ a < gN σ ∧ 0 < a := by
  unfold ckO at h
  simp only [Bool.and_eq_true, decide_eq_true_eq] at h
  refine ⟨h.1, h.2, Nat.pos_of_ne_zero fun z => ?_⟩
  subst z
  have := h.1
  cases this
theorem shp_0 {a : Nat} (h : (shp a).1 ≠ 0) : 0 < a := Nat.pos_of_ne_zero fun z => h (by rw [z]; rfl)
theorem ckI_s {a : Nat} {i : Int32} (h : ckI σ a i = true) : (shp a).1 = 2 ∧ a < gN σ ∧ 0 < a ∧ vp_in i (shp a).2.1 ∧ i.toNatClampNeg < (shp a).2.1 := by
  unfold ckI at h
  simp only [Bool.and_eq_true, decide_eq_true_eq] at h
  exact ⟨h.1.1, h.1.2, shp_0 (by rw [h.1.1]; decide), (inb_s h.2).1, (inb_s h.2).2⟩
theorem ckZ_s {a : Nat} {i : Int32} (h : ckZ σ a i = true) : (shp a).1 = 3 ∧ a < gN σ ∧ 0 < a ∧ vp_in i (shp a).2.1 ∧ i.toNatClampNeg < (shp a).2.1 := by
  unfold ckZ at h
  simp only [Bool.and_eq_true, decide_eq_true_eq] at h
  exact ⟨h.1.1, h.1.2, shp_0 (by rw [h.1.1]; decide), (inb_s h.2).1, (inb_s h.2).2⟩
theorem ckJ_s {a : Nat} {i : Int32} (h : ckJ σ a i = true) : (shp a).1 = 4 ∧ a < gN σ ∧ 0 < a ∧ vp_in i (shp a).2.1 ∧ i.toNatClampNeg < (shp a).2.1 := by
  unfold ckJ at h
  simp only [Bool.and_eq_true, decide_eq_true_eq] at h
  exact ⟨h.1.1, h.1.2, shp_0 (by rw [h.1.1]; decide), (inb_s h.2).1, (inb_s h.2).2⟩
theorem ckG_s {a : Nat} {i : Int32} (h : ckG σ a i = true) : (shp a).1 = 5 ∧ a < gN σ ∧ 0 < a ∧ vp_in i (shp a).2.1 ∧ i.toNatClampNeg < (shp a).2.1 := by
  unfold ckG at h
  simp only [Bool.and_eq_true, decide_eq_true_eq] at h
  exact ⟨h.1.1, h.1.2, shp_0 (by rw [h.1.1]; decide), (inb_s h.2).1, (inb_s h.2).2⟩
theorem ckR_s {g i : Nat} {j : Int32} (h : ckR σ g i j = true) : (shp g).1 = 5 ∧ g < gN σ ∧ 0 < g ∧ i < (shp g).2.1 ∧ vp_in j (shp g).2.2 ∧ j.toNatClampNeg < (shp g).2.2 := by
  unfold ckR at h
  simp only [Bool.and_eq_true, decide_eq_true_eq] at h
  exact ⟨h.1.1.1, h.1.1.2, shp_0 (by rw [h.1.1.1]; decide), h.1.2, (inb_s h.2).1, (inb_s h.2).2⟩
/-! arrays -/
theorem KU_arr (C : Cx E p s m args meth c own cc nL) {k : Nat} {q : ClassId × FieldType} (h : (tyL E)[k]? = some q) : ArrOfT s q.1 q.2 := (C.2.2.2.2.2.1.1.2 k q h).1
theorem x_iald (C : Cx E p s m args meth c own cc nL) {a : Nat} {i : Int32} (hk : ckI σ a i = true) (hd : decode cc pc = .ok (.iaload, 1)) (kk : X E p l e R s m args below meth c Q nL kc ks σ (pc + 1) L (.int (aI σ a i.toNatClampNeg) :: st)) : X E p l e R s m args below meth c Q nL kc ks σ pc L (.int i :: .ref (ad E a) :: st) := by
  intro H locs ls hH hlo hL
  obtain ⟨h1, h2, h3, h4, h5⟩ := ckI_s hk
  exact W.iald (v := .int (aI σ a i.toNatClampNeg)) C.1 C.2.1 ((hH.2.2.2.2.2 a h3 h2).2.1 h1) (KU_arr C (k := 0) rfl _ _) (fun q => by cases q) (by show ¬ (i < 0 ∨ (arrV _ _ _).slots.size ≤ _); rw [arrV_size]; exact h4) (by show (arrV _ _ _).slots[_]? = _; rw [arrV_read _ _ h5]) rfl rfl hd (kk H locs ls hH hlo hL)
theorem x_zald (C : Cx E p s m args meth c own cc nL) {a : Nat} {i : Int32} (hk : ckZ σ a i = true) (hd : decode cc pc = .ok (.baload, 1)) (kk : X E p l e R s m args below meth c Q nL kc ks σ (pc + 1) L (.int (aI σ a i.toNatClampNeg) :: st)) : X E p l e R s m args below meth c Q nL kc ks σ pc L (.int i :: .ref (ad E a) :: st) := by
  intro H locs ls hH hlo hL
  obtain ⟨h1, h2, h3, h4, h5⟩ := ckZ_s hk
  exact W.zald (v := .int (aI σ a i.toNatClampNeg)) C.1 C.2.1 ((hH.2.2.2.2.2 a h3 h2).2.2.1 h1) (KU_arr C (k := 1) rfl _ _) (fun q => by cases q) (by show ¬ (i < 0 ∨ (arrV _ _ _).slots.size ≤ _); rw [arrV_size]; exact h4) (by show (arrV _ _ _).slots[_]? = _; rw [arrV_read _ _ h5]) rfl rfl hd (kk H locs ls hH hlo hL)
theorem x_lald (C : Cx E p s m args meth c own cc nL) {a : Nat} {i : Int32} (hk : ckJ σ a i = true) (hd : decode cc pc = .ok (.laload, 1)) (kk : X E p l e R s m args below meth c Q nL kc ks σ (pc + 1) L (.long (aJ σ a i.toNatClampNeg) :: st)) : X E p l e R s m args below meth c Q nL kc ks σ pc L (.int i :: .ref (ad E a) :: st) := by
  intro H locs ls hH hlo hL
  obtain ⟨h1, h2, h3, h4, h5⟩ := ckJ_s hk
  exact W.lald (v := .long (aJ σ a i.toNatClampNeg)) C.1 C.2.1 ((hH.2.2.2.2.2 a h3 h2).2.2.2.1 h1) (KU_arr C (k := 2) rfl _ _) (fun q => by cases q) (by show ¬ (i < 0 ∨ (arrV _ _ _).slots.size ≤ _); rw [arrV_size]; exact h4) (by show (arrV _ _ _).slots[_]? = _; rw [arrV_read _ _ h5]) rfl rfl hd (kk H locs ls hH hlo hL)
theorem x_gald (C : Cx E p s m args meth c own cc nL) {a : Nat} {i : Int32} (hk : ckG σ a i = true) (hd : decode cc pc = .ok (.aaload, 1)) (kk : X E p l e R s m args below meth c Q nL kc ks σ (pc + 1) L (.ref (rw1 E a i.toNatClampNeg) :: st)) : X E p l e R s m args below meth c Q nL kc ks σ pc L (.int i :: .ref (ad E a) :: st) := by
  intro H locs ls hH hlo hL
  obtain ⟨h1, h2, h3, h4, h5⟩ := ckG_s hk
  exact W.aald (v := .ref (rw1 E a i.toNatClampNeg)) (ty := .array .int) C.1 C.2.1 ((hH.2.2.2.2.2 a h3 h2).2.2.2.2 h1).1 (KU_arr C (k := 3) rfl _ _) rfl (fun q => by cases q) (by show ¬ (i < 0 ∨ (arrV _ _ _).slots.size ≤ _); rw [arrV_size]; exact h4) (by show (arrV _ _ _).slots[_]? = _; rw [arrV_read _ _ h5]) rfl rfl hd (kk H locs ls hH hlo hL)
theorem x_rald (C : Cx E p s m args meth c own cc nL) {g i : Nat} {j : Int32} (hk : ckR σ g i j = true) (hd : decode cc pc = .ok (.iaload, 1)) (kk : X E p l e R s m args below meth c Q nL kc ks σ (pc + 1) L (.int (aG σ g i j.toNatClampNeg) :: st)) : X E p l e R s m args below meth c Q nL kc ks σ pc L (.int j :: .ref (rw1 E g i) :: st) := by
  intro H locs ls hH hlo hL
  obtain ⟨h1, h2, h3, h4, h5, h6⟩ := ckR_s hk
  exact W.iald (v := .int (aG σ g i j.toNatClampNeg)) C.1 C.2.1 (((hH.2.2.2.2.2 g h3 h2).2.2.2.2 h1).2 i h4) (KU_arr C (k := 0) rfl _ _) (fun q => by cases q) (by show ¬ (j < 0 ∨ (arrV _ _ _).slots.size ≤ _); rw [arrV_size]; exact h5) (by show (arrV _ _ _).slots[_]? = _; rw [arrV_read _ _ h6]) rfl rfl hd (kk H locs ls hH hlo hL)
theorem u2_s {α : Type} {f : Nat → Nat → α} {a k : Nat} {v : α} : u2 f a k v a k = v := by unfold u2; rw [if_pos ⟨rfl, rfl⟩]
theorem u2_n {α : Type} {f : Nat → Nat → α} {a k b j : Nat} {v : α} (h : b ≠ a ∨ j ≠ k) : u2 f a k v b j = f b j := by
  unfold u2
  rw [if_neg]
  rintro ⟨h1, h2⟩
  rcases h with h | h
  · exact h h1
  · exact h h2
theorem u3_n {α : Type} {f : Nat → Nat → Nat → α} {a k i b j i' : Nat} {v : α} (h : b ≠ a ∨ i' ≠ i ∨ j ≠ k) : u3 f a i k v b i' j = f b i' j := by
  unfold u3
  rw [if_neg]
  rintro ⟨h1, h2, h3⟩
  rcases h with h | h | h
  · exact h h1
  · exact h h2
  · exact h h3
theorem u3_s {α : Type} {f : Nat → Nat → Nat → α} {a i k : Nat} {v : α} : u3 f a i k v a i k = v := by unfold u3; rw [if_pos ⟨rfl, rfl, rfl⟩]
theorem lo_put {locs : List Loc} {q k : Nat} (h : ∀ q ∈ locs, eF E q.base) (hq : eF E q) : ∀ z ∈ locs ++ [⟨q, k⟩], eF E z.base := by
  intro z hz
  rcases List.mem_append.mp hz with h1 | h1
  · exact h z h1
  · rw [List.mem_singleton.mp h1]
    exact hq
theorem eF_ad {a : Nat} (h : a < 1000) : eF E (ad E a) := by
  show (eH E).size ≤ ad E a
  rw [ad_lt h]
  omega
theorem eF_rw {g i : Nat} (h : g < 1000) : eF E (rw1 E g i) := by
  show (eH E).size ≤ rw1 E g i
  unfold rw1
  rw [ad_lt h]
  omega
theorem xarr_set {cA : ClassId} {n k : Nat} {f g : Nat → Value} {v : Value} (h : ∀ j, g j = if j = k then v else f j) : (arrV cA n f).setSlot k v = arrV cA n g := by
  rw [arrV_store]
  refine congrArg (arrV cA n) (funext fun j => ?_)
  rw [h j]
  rfl
theorem rw_ne0 {g i : Nat} : ad E g ≠ rw1 E g i := by
  unfold rw1
  omega
theorem rw_neq {g i j : Nat} (h : j ≠ i) : rw1 E g j ≠ rw1 E g i := by
  unfold rw1
  omega
theorem vI_s {a i j : Nat} {x : Int32} : Value.int (aI (wI σ a i x) a j) = if j = i then Value.int x else Value.int (aI σ a j) := by
  by_cases h : j = i
  · rw [if_pos h, h]
    exact congrArg Value.int u2_s
  · rw [if_neg h]
    exact congrArg Value.int (u2_n (Or.inr h))
theorem vJ_s {a i j : Nat} {x : Int64} : Value.long (aJ (wJ σ a i x) a j) = if j = i then Value.long x else Value.long (aJ σ a j) := by
  by_cases h : j = i
  · rw [if_pos h, h]
    exact congrArg Value.long u2_s
  · rw [if_neg h]
    exact congrArg Value.long (u2_n (Or.inr h))
theorem vG_s {a g i j : Nat} {x : Int32} : Value.int (aG (wG σ a g i x) a g j) = if j = i then Value.int x else Value.int (aG σ a g j) := by
  by_cases h : j = i
  · rw [if_pos h, h]
    exact congrArg Value.int u3_s
  · rw [if_neg h]
    exact congrArg Value.int (u3_n (Or.inr (Or.inr h)))
theorem x_iast (C : Cx E p s m args meth c own cc nL) {a : Nat} {i x : Int32} (hk : ckI σ a i = true) (hd : decode cc pc = .ok (.iastore, 1)) (kk : X E p l e R s m args below meth c Q nL kc ks (wI σ a i.toNatClampNeg x) (pc + 1) L st) : X E p l e R s m args below meth c Q nL kc ks σ pc L (.int x :: .int i :: .ref (ad E a) :: st) := by
  intro H locs ls hH hlo hL
  obtain ⟨h1, h2, h3, h4, h5⟩ := ckI_s hk
  have hN := hH.2.2.2.2.1
  refine W.iast C.1 C.2.1 ((hH.2.2.2.2.2 a h3 h2).2.1 h1) (KU_arr C (k := 0) rfl _ _) (fun q => by cases q) (by show ¬ (i < 0 ∨ (arrV _ _ _).slots.size ≤ _); rw [arrV_size]; exact h4) rfl rfl hd fun H1 e1 z oq => ?_
  refine kk H1 _ ls (hH.put h3 h2 (own_0 (by rw [h1]; decide)) z oq rfl rfl (fun _ _ _ => rfl) (fun _ _ _ => rfl) (fun _ _ _ => rfl) (fun b hb k => u2_n (Or.inl hb)) (fun _ _ _ => rfl) (fun _ _ _ _ => rfl) ⟨fun h => ?_, fun _ => ?_, fun h => ?_, fun h => ?_, fun h => ?_⟩) (lo_put hlo (eF_ad (by omega))) hL
  · rw [h1] at h; cases h
  · rw [e1]
    exact congrArg some (xarr_set fun j => vI_s)
  all_goals (rw [h1] at h; cases h)
theorem nar_01 {x : Int32} (h : ck01 x = true) : narrow .boolean (.int x) = .int x := by
  unfold ck01 at h
  simp only [Bool.or_eq_true, decide_eq_true_eq] at h
  rcases h with rfl | rfl <;> rfl
theorem x_zast (C : Cx E p s m args meth c own cc nL) {a : Nat} {i x : Int32} (hk : ckZ σ a i = true) (h01 : ck01 x = true) (hd : decode cc pc = .ok (.bastore, 1)) (kk : X E p l e R s m args below meth c Q nL kc ks (wI σ a i.toNatClampNeg x) (pc + 1) L st) : X E p l e R s m args below meth c Q nL kc ks σ pc L (.int x :: .int i :: .ref (ad E a) :: st) := by
  intro H locs ls hH hlo hL
  obtain ⟨h1, h2, h3, h4, h5⟩ := ckZ_s hk
  have hN := hH.2.2.2.2.1
  refine W.zast C.1 C.2.1 ((hH.2.2.2.2.2 a h3 h2).2.2.1 h1) (KU_arr C (k := 1) rfl _ _) (fun q => by cases q) (by show ¬ (i < 0 ∨ (arrV _ _ _).slots.size ≤ _); rw [arrV_size]; exact h4) rfl rfl hd fun H1 e1 z oq => ?_
  refine kk H1 _ ls (hH.put h3 h2 (own_0 (by rw [h1]; decide)) z oq rfl rfl (fun _ _ _ => rfl) (fun _ _ _ => rfl) (fun _ _ _ => rfl) (fun b hb k => u2_n (Or.inl hb)) (fun _ _ _ => rfl) (fun _ _ _ _ => rfl) ⟨fun h => ?_, fun h => ?_, fun _ => ?_, fun h => ?_, fun h => ?_⟩) (lo_put hlo (eF_ad (by omega))) hL
  · rw [h1] at h; cases h
  · rw [h1] at h; cases h
  · rw [e1, nar_01 h01]
    exact congrArg some (xarr_set fun j => vI_s)
  all_goals (rw [h1] at h; cases h)
theorem x_last (C : Cx E p s m args meth c own cc nL) {a : Nat} {i : Int32} {x : Int64} (hk : ckJ σ a i = true) (hd : decode cc pc = .ok (.lastore, 1)) (kk : X E p l e R s m args below meth c Q nL kc ks (wJ σ a i.toNatClampNeg x) (pc + 1) L st) : X E p l e R s m args below meth c Q nL kc ks σ pc L (.long x :: .int i :: .ref (ad E a) :: st) := by
  intro H locs ls hH hlo hL
  obtain ⟨h1, h2, h3, h4, h5⟩ := ckJ_s hk
  have hN := hH.2.2.2.2.1
  refine W.last C.1 C.2.1 ((hH.2.2.2.2.2 a h3 h2).2.2.2.1 h1) (KU_arr C (k := 2) rfl _ _) (fun q => by cases q) (by show ¬ (i < 0 ∨ (arrV _ _ _).slots.size ≤ _); rw [arrV_size]; exact h4) rfl rfl hd fun H1 e1 z oq => ?_
  refine kk H1 _ ls (hH.put h3 h2 (own_0 (by rw [h1]; decide)) z oq rfl rfl (fun _ _ _ => rfl) (fun _ _ _ => rfl) (fun _ _ _ => rfl) (fun _ _ _ => rfl) (fun b hb k => u2_n (Or.inl hb)) (fun _ _ _ _ => rfl) ⟨fun h => ?_, fun h => ?_, fun h => ?_, fun _ => ?_, fun h => ?_⟩) (lo_put hlo (eF_ad (by omega))) hL
  · rw [h1] at h; cases h
  · rw [h1] at h; cases h
  · rw [h1] at h; cases h
  · rw [e1]
    exact congrArg some (xarr_set fun j => vJ_s)
  all_goals (rw [h1] at h; cases h)
theorem x_rast (C : Cx E p s m args meth c own cc nL) {g i : Nat} {j x : Int32} (hk : ckR σ g i j = true) (hd : decode cc pc = .ok (.iastore, 1)) (kk : X E p l e R s m args below meth c Q nL kc ks (wG σ g i j.toNatClampNeg x) (pc + 1) L st) : X E p l e R s m args below meth c Q nL kc ks σ pc L (.int x :: .int j :: .ref (rw1 E g i) :: st) := by
  intro H locs ls hH hlo hL
  obtain ⟨h1, h2, h3, h4, h5, h6⟩ := ckR_s hk
  have hN := hH.2.2.2.2.1
  obtain ⟨g1, g2⟩ := (hH.2.2.2.2.2 g h3 h2).2.2.2.2 h1
  refine W.iast C.1 C.2.1 (g2 i h4) (KU_arr C (k := 0) rfl _ _) (fun q => by cases q) (by show ¬ (j < 0 ∨ (arrV _ _ _).slots.size ≤ _); rw [arrV_size]; exact h5) rfl rfl hd fun H1 e1 z oq => ?_
  refine kk H1 _ ls (hH.put h3 h2 (own_r h1 h4) z oq rfl rfl (fun _ _ _ => rfl) (fun _ _ _ => rfl) (fun _ _ _ => rfl) (fun _ _ _ => rfl) (fun _ _ _ => rfl) (fun b hb _ _ => u3_n (Or.inl hb)) ⟨fun h => ?_, fun h => ?_, fun h => ?_, fun h => ?_, fun _ => ⟨?_, fun i2 hi2 => ?_⟩⟩) (lo_put hlo (eF_rw (by omega))) hL
  · rw [h1] at h; cases h
  · rw [h1] at h; cases h
  · rw [h1] at h; cases h
  · rw [h1] at h; cases h
  · rw [oq _ rw_ne0]
    exact g1
  · by_cases hi : i2 = i
    · subst hi
      rw [e1]
      exact congrArg some (xarr_set fun k => vG_s)
    · rw [oq _ (rw_neq hi), g2 i2 hi2]
      exact congrArg some (congrArg _ (funext fun k => congrArg Value.int (u3_n (Or.inr (Or.inl hi))).symm))
theorem x_alen (C : Cx E p s m args meth c own cc nL) {a : Nat} (hk : ckL σ a = true) (hd : decode cc pc = .ok (.arraylength, 1)) (kk : X E p l e R s m args below meth c Q nL kc ks σ (pc + 1) L (.int (nI (shp a).2.1) :: st)) : X E p l e R s m args below meth c Q nL kc ks σ pc L (.ref (ad E a) :: st) := by
  intro H locs ls hH hlo hL
  unfold ckL at hk
  simp only [Bool.and_eq_true, decide_eq_true_eq] at hk
  have h0 : 0 < a := shp_0 (by omega)
  obtain ⟨c1, c2, c3, c4, c5⟩ := hH.2.2.2.2.2 a h0 hk.2
  have h6 : (shp a).1 = 2 ∨ (shp a).1 = 3 ∨ (shp a).1 = 4 ∨ (shp a).1 = 5 := by
    have hl : a < 51 := by have := hH.2.2.2.2.1; omega
    have : (shp a).1 ≤ 5 := by
      have h9 : ∀ a, a < 51 → (shp a).1 ≤ 5 := by decide +kernel
      exact h9 a hl
    omega
  rcases h6 with h1 | h1 | h1 | h1
  · exact W.alen (n := nI (shp a).2.1) C.1 C.2.1 (c2 h1) (KU_arr C (k := 0) rfl _ _) (by rw [arrV_size] <;> rfl) rfl rfl hd (kk H locs ls hH hlo hL)
  · exact W.alen (n := nI (shp a).2.1) C.1 C.2.1 (c3 h1) (KU_arr C (k := 1) rfl _ _) (by rw [arrV_size] <;> rfl) rfl rfl hd (kk H locs ls hH hlo hL)
  · exact W.alen (n := nI (shp a).2.1) C.1 C.2.1 (c4 h1) (KU_arr C (k := 2) rfl _ _) (by rw [arrV_size] <;> rfl) rfl rfl hd (kk H locs ls hH hlo hL)
  · exact W.alen (n := nI (shp a).2.1) C.1 C.2.1 (c5 h1).1 (KU_arr C (k := 3) rfl _ _) (by rw [arrV_size] <;> rfl) rfl rfl hd (kk H locs ls hH hlo hL)
/-! fields -/
def clK (ci : Nat) (Cn : String) (T : u_T) (N : Nat) : Prop := vwCl[ci]? = some (Cn, T, N) ∧ (∀ w ∈ u_ws Cn T N, w ∈ tblG) ∧ (∀ k, k < N → parseFieldDescriptor (T k).2.2.1 = some (fty ci k)) ∧ (∀ a, a < N → ∀ b, b < N → a ≠ b → (T a).2.1 ≠ (T b).2.1)
def fL (own : String) (idx ci k : Nat) : Prop := ∃ (Cn : String) (T : u_T) (N : Nat), clK ci Cn T N ∧ k < N ∧ (Cond.fieldLink own idx Cn (T k).2.1 (T k).2.2.1 ∈ tblG ∨ ∃ host, Cond.fieldLinkNest own idx Cn (T k).2.1 (T k).2.2.1 host ∈ tblN) ∧ (T k).1 = Cn
def pL (own : String) (idx ci k : Nat) : Prop := ∃ (Cn : String) (T : u_T) (N : Nat), clK ci Cn T N ∧ k < N ∧ (Cond.fieldLink own idx Cn (T k).2.1 (T k).2.2.1 ∈ tblG ∨ ∃ host, Cond.fieldLinkNest own idx Cn (T k).2.1 (T k).2.2.1 host ∈ tblN) ∧ (T k).1 = Cn ∧ (T k).2.2.2 = false
def qL (own : String) (idx ci k : Nat) : Prop := ∃ (T : u_T) (N : Nat), clK ci own T N ∧ k < N ∧ Cond.fieldLink own idx own (T k).2.1 (T k).2.2.1 ∈ tblG ∧ (T k).1 = own ∧ (T k).2.2.2 = true
/-- the cell of an object, as the kit's rows take it -/
theorem obj_of (C : Cx E p s m args meth c own cc nL) {H : Heap} (hH : Hd E σ H) {ci a N : Nat} {Cn : String} {T : u_T} (hc : clK ci Cn T N) (hk : ckO σ ci a = true) : t_OB (ad E a) ((eD E).1 ci) N ((eD E).2 ci) H (fun k => fva E σ ci a k) ∧ u_Kn s Cn T N ((eD E).1 ci) ((eD E).2 ci) := by
  obtain ⟨h1, h2, h3⟩ := ckO_s hk
  obtain ⟨r, r1, r2⟩ := (hH.2.2.2.2.2 a h3 h2).1 (by rw [h1])
  rw [h1] at r1 r2
  have e : r = (Cn, T, N) := Option.some.inj (r1.symm.trans hc.1)
  subst e
  exact ⟨r2, C.2.2.2.2.2.1.1.1 ci _ hc.1⟩
theorem x_getf (C : Cx E p s m args meth c own cc nL) {idx ci k a : Nat} {v : Value} (hl : fL own idx ci k) (hv : fva E σ ci a k = v) (hk : ckO σ ci a = true) (hd : decode cc pc = .ok (.getfield idx, 3)) (kk : X E p l e R s m args below meth c Q nL kc ks σ (pc + 3) L (v :: st)) : X E p l e R s m args below meth c Q nL kc ks σ pc L (.ref (ad E a) :: st) := by
  intro H locs ls hH hlo hL
  obtain ⟨Cn, T, N, hc, hkN, hlink, hown⟩ := hl
  obtain ⟨⟨cell, q1, q2, q3, q4⟩, hS, hfc, kC, hkC, hkind⟩ := obj_of C hH hc hk
  obtain ⟨cf, kf, fi, f, hi, hsl⟩ := hS k hkN
  have hst := (u_facts hfc hkC (u_lays C.2.2.2.2.1 hc.2.1 hkN) hi).1
  have hs : cell.slots[f.slot]? = some v := by rw [hsl, q4 k hkN]; exact congrArg some hv
  rw [hown] at hi
  rcases hlink with hlink | ⟨host, hlink⟩
  · exact W.getf C.1 C.2.1 C.2.2.2.1 (C.2.2.2.2.1 _ hlink) hi hst q1 (by rw [q3]; exact fun h => by cases h) hs rfl rfl hd (kk H locs ls hH hlo hL)
  · exact va_Wgetf C.1 C.2.1 C.2.2.2.1 (KN_of C hlink rfl) hi hst q1 (by rw [q3]; exact fun h => by cases h) hs rfl rfl hd (kk H locs ls hH hlo hL)
theorem fva_I {ci a k : Nat} (h : fkd (fty ci k) = 0) : fva E σ ci a k = .int (gI σ a k) := if_pos h
theorem fva_J {ci a k : Nat} (h : fkd (fty ci k) = 1) : fva E σ ci a k = .long (gJ σ a k) := by
  unfold fva
  rw [if_neg (by rw [h]; decide), if_pos h]
theorem fva_R {ci a k : Nat} (h : fkd (fty ci k) = 2) : fva E σ ci a k = rv0 E (gR σ a k) := by
  unfold fva
  rw [if_neg (by rw [h]; decide), if_neg (by rw [h]; decide)]
theorem x_getI (C : Cx E p s m args meth c own cc nL) {idx ci k a : Nat} (hl : fL own idx ci k) (hf : fkd (fty ci k) = 0) (hk : ckO σ ci a = true) (hd : decode cc pc = .ok (.getfield idx, 3)) (kk : X E p l e R s m args below meth c Q nL kc ks σ (pc + 3) L (.int (gI σ a k) :: st)) : X E p l e R s m args below meth c Q nL kc ks σ pc L (.ref (ad E a) :: st) := x_getf C hl (fva_I hf) hk hd kk
theorem x_getJ (C : Cx E p s m args meth c own cc nL) {idx ci k a : Nat} (hl : fL own idx ci k) (hf : fkd (fty ci k) = 1) (hk : ckO σ ci a = true) (hd : decode cc pc = .ok (.getfield idx, 3)) (kk : X E p l e R s m args below meth c Q nL kc ks σ (pc + 3) L (.long (gJ σ a k) :: st)) : X E p l e R s m args below meth c Q nL kc ks σ pc L (.ref (ad E a) :: st) := x_getf C hl (fva_J hf) hk hd kk
theorem ckV_s {r : Nat} (h : ckV r = true) : r ≠ 0 := by
  unfold ckV at h
  simpa using h
theorem x_getR (C : Cx E p s m args meth c own cc nL) {idx ci k a : Nat} (hl : fL own idx ci k) (hf : fkd (fty ci k) = 2) (hk : ckO σ ci a = true) (hv : ckV (gR σ a k) = true) (hd : decode cc pc = .ok (.getfield idx, 3)) (kk : X E p l e R s m args below meth c Q nL kc ks σ (pc + 3) L (.ref (ad E (gR σ a k)) :: st)) : X E p l e R s m args below meth c Q nL kc ks σ pc L (.ref (ad E a) :: st) := x_getf C hl ((fva_R hf).trans (rv0_s (ckV_s hv))) hk hd kk
/-- a field of an object is written -/
theorem x_putf (C : Cx E p s m args meth c own cc nL) {idx ci k a : Nat} {v : Value} {σ' : Sg} (hl : pL own idx ci k ∨ (qL own idx ci k ∧ meth.name = "<init>")) (hk : ckO σ ci a = true) (hn : narrow (fty ci k) v = v) (hfit : fits (fty ci k) v = true) (hv : fva E σ' ci a k = v) (ho : ∀ j, j ≠ k → fva E σ' ci a j = fva E σ ci a j) (hN : tl σ' = tl σ) (hF : gF σ' = gF σ)
    (e1 : ∀ b, b ≠ a → ∀ k, gI σ' b k = gI σ b k) (e2 : ∀ b, b ≠ a → ∀ k, gJ σ' b k = gJ σ b k) (e3 : ∀ b, b ≠ a → ∀ k, gR σ' b k = gR σ b k) (e4 : ∀ b, b ≠ a → ∀ k, aI σ' b k = aI σ b k) (e5 : ∀ b, b ≠ a → ∀ k, aJ σ' b k = aJ σ b k) (e6 : ∀ b, b ≠ a → ∀ i j, aG σ' b i j = aG σ b i j)
    (hd : decode cc pc = .ok (.putfield idx, 3)) (kk : X E p l e R s m args below meth c Q nL kc ks σ' (pc + 3) L st) : X E p l e R s m args below meth c Q nL kc ks σ pc L (v :: .ref (ad E a) :: st) := by
  intro H locs ls hH hlo hL
  obtain ⟨h1, h2, h3⟩ := ckO_s hk
  have hN1 := hH.2.2.2.2.1
  have fin : ∀ (Cn : String) (T : u_T) (N : Nat), clK ci Cn T N → k < N → ∀ (cell : Cell), H[ad E a]? = some cell → cell.cls = (eD E).1 ci → cell.vm = .none → (∀ j, j < N → cell.slots[(eD E).2 ci j]? = some (fva E σ ci a j)) → ∀ H1 : Heap, H1[ad E a]? = some (cell.setSlot ((eD E).2 ci k) v) → H1.size = H.size → (∀ q : Addr, q ≠ ad E a → H1[q]? = H[q]?) → Hd E σ' H1 := by
    intro Cn T N hc hkN cell q1 q2 q3 q4 H1 w1 w2 w3
    have hap := va_apart (own := own) C.2.2.2.2.1 hc.2.1 (fty ci) hc.2.2.1 hc.2.2.2 C.2.2.2.2.2.1.1 hc.1
    refine hH.put h3 h2 (own_0 (by rw [h1]; exact Nat.one_ne_zero)) w2 w3 hN hF e1 e2 e3 e4 e5 e6 ⟨fun _ => ?_, fun h => ?_, fun h => ?_, fun h => ?_, fun h => ?_⟩
    · rw [h1]
      refine ⟨_, hc.1, _, w1, q2, q3, fun j hj => ?_⟩
      rw [t_set q4 hap hkN v j hj]
      by_cases hjk : j = k
      · subst hjk
        show some (updV (fun k => fva E σ ci a k) j v j) = some (fva E σ' ci a j)
        rw [hv]
        exact congrArg some (if_pos rfl)
      · show some (updV (fun k => fva E σ ci a k) k v j) = some (fva E σ' ci a j)
        rw [ho j hjk]
        exact congrArg some (if_neg hjk)
    all_goals (rw [h1] at h; cases h)
  rcases hl with ⟨Cn, T, N, hc, hkN, hlink, hown, hfin⟩ | ⟨⟨T, N, hc, hkN, hlink, hown, hfin⟩, hin⟩
  · obtain ⟨⟨cell, q1, q2, q3, q4⟩, hS, hfc, kC, hkC, hkind⟩ := obj_of C hH hc hk
    obtain ⟨cf, kf, fi, f, hi, hsl⟩ := hS k hkN
    have hst := (u_facts hfc hkC (u_lays C.2.2.2.2.1 hc.2.1 hkN) hi).1
    have hlay := C.2.2.2.2.1 _ (hc.2.1 _ (u_in_lay hkN))
    unfold u_lay at hlay
    rw [if_neg (by rw [hfin]; decide)] at hlay
    have h6 := u_store hfc hkC hkind hlay hi (hc.2.2.1 k hkN) hn hfit
    rw [hown] at hi
    rcases hlink with hlink | ⟨host, hlink⟩
    · refine W.putK C.1 C.2.1 (f := f) ⟨C.2.2.2.1, C.2.2.2.2.1 _ hlink, ⟨_, _, _, hi⟩, hst⟩ (by rw [q2]; exact h6) q1 q3 (by rw [hsl]; exact k2_hasslot (q4 k hkN)) rfl rfl hd fun H1 w1 w2 w3 => ?_
      rw [hsl] at w1 ⊢
      exact kk H1 _ ls (fin Cn T N hc hkN cell q1 q2 q3 q4 H1 w1 w2 w3) (lo_put hlo (eF_ad (by omega))) hL
    · refine va_WputK C.1 C.2.1 (f := f) C.2.2.2.1 (KN_of C hlink rfl) hi hst (by rw [q2]; exact h6) q1 q3 (by rw [hsl]; exact k2_hasslot (q4 k hkN)) rfl rfl hd fun H1 w1 w2 w3 => ?_
      rw [hsl] at w1 ⊢
      exact kk H1 _ ls (fin Cn T N hc hkN cell q1 q2 q3 q4 H1 w1 w2 w3) (lo_put hlo (eF_ad (by omega))) hL
  · obtain ⟨⟨cell, q1, q2, q3, q4⟩, hS, hfc, kC, hkC, hkind⟩ := obj_of C hH hc hk
    obtain ⟨cf, kf, fi, f, hi, hsl⟩ := hS k hkN
    have hst := (u_facts hfc hkC (u_lays C.2.2.2.2.1 hc.2.1 hkN) hi).1
    have hlay := C.2.2.2.2.1 _ (hc.2.1 _ (u_in_lay hkN))
    unfold u_lay at hlay
    rw [if_pos hfin] at hlay
    have hcf : m.cls = cf := by
      obtain ⟨_, _, c', _, _, _, -, -, hf', -, -, -, hown2, -⟩ := Cond.laysFinal_spec hlay
      have e1 : c' = cf := by have := hi.symm.trans hf'; simp at this; exact this.1.symm
      rw [hown] at hown2
      rw [← e1]; exact Option.some.inj (C.2.2.2.1.symm.trans hown2)
    have h6 := u_fits hfc hkC hkind (Or.inr hlay) hi (hc.2.2.1 k hkN) hn hfit
    rw [hown] at hi
    refine W.putFinK C.1 C.2.1 C.2.2.2.1 (C.2.2.2.2.1 _ hlink) hi hst hcf hin (by rw [q2]; exact h6) q1 q3 (by rw [hsl]; exact k2_hasslot (q4 k hkN)) rfl rfl hd fun H1 w1 w2 w3 => ?_
    rw [hsl] at w1 ⊢
    exact kk H1 _ ls (fin own T N hc hkN cell q1 q2 q3 q4 H1 w1 w2 w3) (lo_put hlo (eF_ad (by omega))) hL
theorem fva_pI {ci a k j : Nat} {x : Int32} (h : j ≠ k) : fva E (pI σ a k x) ci a j = fva E σ ci a j := by
  unfold fva
  rw [show gI (pI σ a k x) a j = gI σ a j from u2_n (Or.inr h)]
  rfl
theorem fva_pJ {ci a k j : Nat} {x : Int64} (h : j ≠ k) : fva E (pJ σ a k x) ci a j = fva E σ ci a j := by
  unfold fva
  rw [show gJ (pJ σ a k x) a j = gJ σ a j from u2_n (Or.inr h)]
  rfl
theorem fva_pR {ci a k j : Nat} {x : Nat} (h : j ≠ k) : fva E (pR σ a k x) ci a j = fva E σ ci a j := by
  unfold fva
  rw [show gR (pR σ a k x) a j = gR σ a j from u2_n (Or.inr h)]
  rfl
theorem x_putI (C : Cx E p s m args meth c own cc nL) {idx ci k a : Nat} {x : Int32} (hl : pL own idx ci k) (hf : fty ci k = .int) (hk : ckO σ ci a = true) (hd : decode cc pc = .ok (.putfield idx, 3)) (kk : X E p l e R s m args below meth c Q nL kc ks (pI σ a k x) (pc + 3) L st) : X E p l e R s m args below meth c Q nL kc ks σ pc L (.int x :: .ref (ad E a) :: st) :=
  x_putf (σ' := pI σ a k x) C (Or.inl hl) hk (by rw [hf]; rfl) (by rw [hf]; rfl) ((fva_I (by rw [hf]; rfl)).trans (congrArg Value.int u2_s)) (fun j hj => fva_pI hj) rfl rfl (fun b hb k => u2_n (Or.inl hb)) (fun _ _ _ => rfl) (fun _ _ _ => rfl) (fun _ _ _ => rfl) (fun _ _ _ => rfl) (fun _ _ _ _ => rfl) hd kk
theorem fit_01 {x : Int32} (h : ck01 x = true) : fits .boolean (.int x) = true := by
  unfold ck01 at h
  simp only [Bool.or_eq_true, decide_eq_true_eq] at h
  rcases h with rfl | rfl <;> rfl
theorem x_putZ (C : Cx E p s m args meth c own cc nL) {idx ci k a : Nat} {x : Int32} (hl : pL own idx ci k) (hf : fty ci k = .boolean) (hk : ckO σ ci a = true) (h01 : ck01 x = true) (hd : decode cc pc = .ok (.putfield idx, 3)) (kk : X E p l e R s m args below meth c Q nL kc ks (pI σ a k x) (pc + 3) L st) : X E p l e R s m args below meth c Q nL kc ks σ pc L (.int x :: .ref (ad E a) :: st) :=
  x_putf (σ' := pI σ a k x) C (Or.inl hl) hk (by rw [hf]; exact nar_01 h01) (by rw [hf]; exact fit_01 h01) ((fva_I (by rw [hf]; rfl)).trans (congrArg Value.int u2_s)) (fun j hj => fva_pI hj) rfl rfl (fun b hb k => u2_n (Or.inl hb)) (fun _ _ _ => rfl) (fun _ _ _ => rfl) (fun _ _ _ => rfl) (fun _ _ _ => rfl) (fun _ _ _ _ => rfl) hd kk
theorem x_putJ (C : Cx E p s m args meth c own cc nL) {idx ci k a : Nat} {x : Int64} (hl : pL own idx ci k) (hf : fty ci k = .long) (hk : ckO σ ci a = true) (hd : decode cc pc = .ok (.putfield idx, 3)) (kk : X E p l e R s m args below meth c Q nL kc ks (pJ σ a k x) (pc + 3) L st) : X E p l e R s m args below meth c Q nL kc ks σ pc L (.long x :: .ref (ad E a) :: st) :=
  x_putf (σ' := pJ σ a k x) C (Or.inl hl) hk (by rw [hf]; rfl) (by rw [hf]; rfl) ((fva_J (by rw [hf]; rfl)).trans (congrArg Value.long u2_s)) (fun j hj => fva_pJ hj) rfl rfl (fun _ _ _ => rfl) (fun b hb k => u2_n (Or.inl hb)) (fun _ _ _ => rfl) (fun _ _ _ => rfl) (fun _ _ _ => rfl) (fun _ _ _ _ => rfl) hd kk
theorem ref_ok {t : FieldType} {r : Nat} (h : (∃ n, t = .object n) ∨ ∃ u, t = .array u) : fkd t = 2 ∧ narrow t (.ref r) = .ref r ∧ fits t (.ref r) = true := by
  rcases h with ⟨n, rfl⟩ | ⟨u, rfl⟩ <;> exact ⟨rfl, rfl, rfl⟩
theorem x_putR (C : Cx E p s m args meth c own cc nL) {idx ci k a x : Nat} (hl : pL own idx ci k) (hf : (∃ n, fty ci k = .object n) ∨ ∃ u, fty ci k = .array u) (hk : ckO σ ci a = true) (hv : ckV x = true) (hd : decode cc pc = .ok (.putfield idx, 3)) (kk : X E p l e R s m args below meth c Q nL kc ks (pR σ a k x) (pc + 3) L st) : X E p l e R s m args below meth c Q nL kc ks σ pc L (.ref (ad E x) :: .ref (ad E a) :: st) :=
  x_putf (σ' := pR σ a k x) C (Or.inl hl) hk (ref_ok (r := ad E x) hf).2.1 (ref_ok (r := ad E x) hf).2.2 ((fva_R (ref_ok (r := 0) hf).1).trans (by rw [show gR (pR σ a k x) a k = x from u2_s]; exact rv0_s (ckV_s hv))) (fun j hj => fva_pR hj) rfl rfl (fun _ _ _ => rfl) (fun _ _ _ => rfl) (fun b hb k => u2_n (Or.inl hb)) (fun _ _ _ => rfl) (fun _ _ _ => rfl) (fun _ _ _ _ => rfl) hd kk
/-- a final one, in its own constructor -/
theorem x_putQ (C : Cx E p s m args meth c own cc nL) {idx ci k a x : Nat} (hl : qL own idx ci k) (hin : meth.name = "<init>") (hf : (∃ n, fty ci k = .object n) ∨ ∃ u, fty ci k = .array u) (hk : ckO σ ci a = true) (hv : ckV x = true) (hd : decode cc pc = .ok (.putfield idx, 3)) (kk : X E p l e R s m args below meth c Q nL kc ks (pR σ a k x) (pc + 3) L st) : X E p l e R s m args below meth c Q nL kc ks σ pc L (.ref (ad E x) :: .ref (ad E a) :: st) :=
  x_putf (σ' := pR σ a k x) C (Or.inr ⟨hl, hin⟩) hk (ref_ok (r := ad E x) hf).2.1 (ref_ok (r := ad E x) hf).2.2 ((fva_R (ref_ok (r := 0) hf).1).trans (by rw [show gR (pR σ a k x) a k = x from u2_s]; exact rv0_s (ckV_s hv))) (fun j hj => fva_pR hj) rfl rfl (fun _ _ _ => rfl) (fun _ _ _ => rfl) (fun b hb k => u2_n (Or.inl hb)) (fun _ _ _ => rfl) (fun _ _ _ => rfl) (fun _ _ _ _ => rfl) hd kk
end XA

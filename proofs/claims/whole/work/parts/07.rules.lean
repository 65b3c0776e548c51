section XA
variable {E : Ev} {p : Program} {l : Launch} {e : Env} {R : Room} {s : State} {m : MethodId} {args : Array Value} {below : List Frame} {meth : Method} {c : Code} {Q : State → Prop} {own : String} {cc : ByteArray} {nL kc ks : Nat} {σ : Sg} {pc : Nat} {L : List (Option Value)} {st : List Value}
def X (E : Ev) (p : Program) (l : Launch) (e : Env) (R : Room) (s : State) (m : MethodId) (args : Array Value) (below : List Frame) (meth : Method) (c : Code) (Q : State → Prop) (nL kc ks : Nat) (σ : Sg) (pc : Nat) (L : List (Option Value)) (st : List Value) : Prop :=
  ∀ (H : Heap) (locs : List Loc) (ls : Array Slot), Hd E σ H → (∀ q ∈ locs, eF E q.base) → xL ls nL L → W p l e R s m args below meth c H locs kc ks Q (F0 m pc ls st)
/-- a jump to a place of which fewer locals are known -/
theorem x_sub {M : List (Option Value)} (h : X E p l e R s m args below meth c Q nL kc ks σ pc L st) (hl : xLe L M) : X E p l e R s m args below meth c Q nL kc ks σ pc M st := fun H locs ls hH hlo hL => h H locs ls hH hlo (hL.le hl)
theorem x_at (hL : xL (ls : Array Slot) nL L) {i : Nat} {v : Value} (h : L[i]? = some (some v)) : ls[i]? = some (.val v) := hL.2.2 i v h
/-- store of one place: what stood in the place is forgotten, and a long value that it cuts -/
def cut1 (L : List (Option Value)) (i : Nat) : List (Option Value) := match L[i]? with
  | some (some v) => if v.category = 2 then L.set i none else L
  | _ => L
def st1 (L : List (Option Value)) (i : Nat) (v : Value) : List (Option Value) := match i with
  | 0 => L.set 0 (some v)
  | j + 1 => (cut1 L j).set (j + 1) (some v)
def st2 (L : List (Option Value)) (i : Nat) (v : Value) : List (Option Value) := match i with
  | 0 => (L.set 0 (some v)).set 1 none
  | j + 1 => ((cut1 L j).set (j + 1) (some v)).set (j + 2) none
theorem cut1_get {L : List (Option Value)} {i j : Nat} {v : Value} (h : (cut1 L i)[j]? = some (some v)) : L[j]? = some (some v) ∧ (j = i → v.category ≠ 2) := by
  unfold cut1 at h
  split at h
  · rename_i w hw
    split at h
    · rename_i hc
      by_cases hj : i = j
      · subst hj
        rw [List.getElem?_set_self ((List.getElem?_eq_some_iff.mp hw).1)] at h
        cases h
      · rw [List.getElem?_set_ne hj] at h
        exact ⟨h, fun e => absurd e.symm hj⟩
    · rename_i hc
      refine ⟨h, fun e => ?_⟩
      subst e
      rw [hw] at h
      cases h
      exact hc
  · rename_i hno
    exact ⟨h, fun e => by subst e; exact absurd h (hno v)⟩
theorem set_get {α : Type} {L : List (Option α)} {i j : Nat} {w : Option α} {v : α} (h : (L.set i w)[j]? = some (some v)) : (j = i ∧ w = some v) ∨ (j ≠ i ∧ L[j]? = some (some v)) := by
  by_cases hj : i = j
  · subst hj
    by_cases hl : i < L.length
    · rw [List.getElem?_set_self hl] at h
      cases h
      exact Or.inl ⟨rfl, rfl⟩
    · rw [List.getElem?_eq_none (by simp; omega)] at h
      cases h
  · rw [List.getElem?_set_ne hj] at h
    exact Or.inr ⟨fun e => hj e.symm, h⟩
/-- the values listed, as the kit lists them -/
def xls (L : List (Option Value)) : List (Nat × Value) := (List.range L.length).filterMap (fun i => match L[i]? with
  | some (some v) => some (i, v)
  | _ => none)
theorem mem_xls {L : List (Option Value)} {i : Nat} {v : Value} : (i, v) ∈ xls L ↔ L[i]? = some (some v) := by
  unfold xls
  rw [List.mem_filterMap]
  constructor
  · rintro ⟨j, -, h⟩
    split at h
    · rename_i w hw
      cases h
      exact hw
    · cases h
  · intro h
    exact ⟨i, List.mem_range.mpr ((List.getElem?_eq_some_iff.mp h).1), by rw [h]⟩
theorem xL.has {ls : Array Slot} {nL : Nat} {L : List (Option Value)} (h : xL ls nL L) : lv_has ls nL (xls L) := ⟨h.1, h.2.1, fun q hq => h.2.2 q.1 q.2 (mem_xls.mp hq)⟩
theorem xL.of {ls : Array Slot} {nL : Nat} {L : List (Option Value)} {lv : List (Nat × Value)} (h : lv_has ls nL lv) (hl : ∀ (i : Nat) (v : Value), L[i]? = some (some v) → (i, v) ∈ lv) : xL ls nL L := ⟨h.1, h.2.1, fun i v hv => h.2.2 (i, v) (hl i v hv)⟩
theorem st1_of {L : List (Option Value)} {i : Nat} {v : Value} (j : Nat) (w : Value) (h : (st1 L i v)[j]? = some (some w)) : (j, w) ∈ (i, v) :: (xls L).filter (fun q => !(q.1 == i) && !(q.1 + 1 == i && q.2.category == 2)) := by
  cases i with
  | zero =>
    rcases set_get h with ⟨rfl, e⟩ | ⟨hne, e⟩
    · cases e; exact List.mem_cons_self
    · refine List.mem_cons_of_mem _ (List.mem_filter.mpr ⟨mem_xls.mpr e, ?_⟩)
      simp [hne]
  | succ i =>
    rcases set_get h with ⟨rfl, e⟩ | ⟨hne, e⟩
    · cases e; exact List.mem_cons_self
    · obtain ⟨e1, e2⟩ := cut1_get e
      refine List.mem_cons_of_mem _ (List.mem_filter.mpr ⟨mem_xls.mpr e1, ?_⟩)
      simp only [Bool.and_eq_true, Bool.not_eq_true', beq_eq_false_iff_ne, Bool.and_eq_false_iff]
      refine ⟨hne, ?_⟩
      by_cases hj : j = i
      · exact Or.inr (e2 hj)
      · exact Or.inl (by intro h; exact hj (Nat.succ.inj h))
theorem st2_of {L : List (Option Value)} {i : Nat} {v : Value} (j : Nat) (w : Value) (h : (st2 L i v)[j]? = some (some w)) : (j, w) ∈ (i, v) :: (xls L).filter (fun q => !(q.1 == i) && (!(q.1 == i + 1) && !(q.1 + 1 == i && q.2.category == 2))) := by
  cases i with
  | zero =>
    rcases set_get h with ⟨rfl, e⟩ | ⟨hn1, h⟩
    · cases e
    rcases set_get h with ⟨rfl, e⟩ | ⟨hne, e⟩
    · cases e; exact List.mem_cons_self
    · refine List.mem_cons_of_mem _ (List.mem_filter.mpr ⟨mem_xls.mpr e, ?_⟩)
      simp [hne, hn1]
  | succ i =>
    rcases set_get h with ⟨rfl, e⟩ | ⟨hn1, h⟩
    · cases e
    rcases set_get h with ⟨rfl, e⟩ | ⟨hne, e⟩
    · cases e; exact List.mem_cons_self
    · obtain ⟨e1, e2⟩ := cut1_get e
      refine List.mem_cons_of_mem _ (List.mem_filter.mpr ⟨mem_xls.mpr e1, ?_⟩)
      simp only [Bool.and_eq_true, Bool.not_eq_true', beq_eq_false_iff_ne, Bool.and_eq_false_iff]
      refine ⟨hne, hn1, ?_⟩
      by_cases hj : j = i
      · exact Or.inr (e2 hj)
      · exact Or.inl (by intro h; exact hj (Nat.succ.inj h))

end XA

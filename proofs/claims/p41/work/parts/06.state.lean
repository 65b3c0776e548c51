/-! THE SYSTEM'S STATE AS FUNCTIONS: fields and arrays by virtual addresses (in the order in which the constructors make them), and what it means that a heap holds it. -/
/-- int fields, long fields, reference fields, int (and boolean) arrays, long arrays, grids, how many cells are made, whether nothing else was made since -/
abbrev Tg : Type := Nat × Bool × Nat × Nat × (Nat → Nat × Nat)
abbrev Sg : Type := (Nat → Nat → Int32) × (Nat → Nat → Int64) × (Nat → Nat → Nat) × (Nat → Nat → Int32) × (Nat → Nat → Int64) × (Nat → Nat → Nat → Int32) × Tg
def gI (σ : Sg) (a k : Nat) : Int32 := σ.1 a k
def gJ (σ : Sg) (a k : Nat) : Int64 := σ.2.1 a k
def gR (σ : Sg) (a k : Nat) : Nat := σ.2.2.1 a k
def aI (σ : Sg) (a i : Nat) : Int32 := σ.2.2.2.1 a i
def aJ (σ : Sg) (a i : Nat) : Int64 := σ.2.2.2.2.1 a i
def aG (σ : Sg) (g i j : Nat) : Int32 := σ.2.2.2.2.2.1 g i j
def gN (σ : Sg) : Nat := σ.2.2.2.2.2.2.1
def gF (σ : Sg) : Bool := σ.2.2.2.2.2.2.2.1
/-- what the law makes: how many, how many places in all, the sort of each (sort, number of its class or length); their virtual addresses are 2000 and on -/
def gM (σ : Sg) : Nat := σ.2.2.2.2.2.2.2.2.1
def gZ (σ : Sg) : Nat := σ.2.2.2.2.2.2.2.2.2.1
def gS (σ : Sg) (a : Nat) : Nat × Nat := σ.2.2.2.2.2.2.2.2.2.2 a
def tl (σ : Sg) : Tg := σ.2.2.2.2.2.2
def u2 {α : Type} (f : Nat → Nat → α) (a k : Nat) (v : α) : Nat → Nat → α := fun x y => if x = a ∧ y = k then v else f x y
def u3 {α : Type} (f : Nat → Nat → Nat → α) (a i k : Nat) (v : α) : Nat → Nat → Nat → α := fun x y z => if x = a ∧ y = i ∧ z = k then v else f x y z
def u1 {α : Type} (f : Nat → α) (a : Nat) (v : α) : Nat → α := fun x => if x = a then v else f x
def pI (σ : Sg) (a k : Nat) (v : Int32) : Sg := (u2 σ.1 a k v, σ.2)
def pJ (σ : Sg) (a k : Nat) (v : Int64) : Sg := (σ.1, u2 σ.2.1 a k v, σ.2.2)
def pR (σ : Sg) (a k : Nat) (v : Nat) : Sg := (σ.1, σ.2.1, u2 σ.2.2.1 a k v, σ.2.2.2)
def wI (σ : Sg) (a i : Nat) (v : Int32) : Sg := (σ.1, σ.2.1, σ.2.2.1, u2 σ.2.2.2.1 a i v, σ.2.2.2.2)
def wJ (σ : Sg) (a i : Nat) (v : Int64) : Sg := (σ.1, σ.2.1, σ.2.2.1, σ.2.2.2.1, u2 σ.2.2.2.2.1 a i v, σ.2.2.2.2.2)
def wG (σ : Sg) (g i j : Nat) (v : Int32) : Sg := (σ.1, σ.2.1, σ.2.2.1, σ.2.2.2.1, σ.2.2.2.2.1, u3 σ.2.2.2.2.2.1 g i j v, σ.2.2.2.2.2.2)
/-- one cell more, all 0 -/
def mk1 (σ : Sg) : Sg := (u1 σ.1 (gN σ) (fun _ => 0), u1 σ.2.1 (gN σ) (fun _ => 0), u1 σ.2.2.1 (gN σ) (fun _ => 0), u1 σ.2.2.2.1 (gN σ) (fun _ => 0), u1 σ.2.2.2.2.1 (gN σ) (fun _ => 0), u1 σ.2.2.2.2.2.1 (gN σ) (fun _ _ => 0), gN σ + 1, σ.2.2.2.2.2.2.2)
/-- one of the law's more, of sort (k, n), z places, all 0 -/
def mkD (σ : Sg) (k n z : Nat) : Sg := (u1 σ.1 (2000 + gM σ) (fun _ => 0), u1 σ.2.1 (2000 + gM σ) (fun _ => 0), u1 σ.2.2.1 (2000 + gM σ) (fun _ => 0), u1 σ.2.2.2.1 (2000 + gM σ) (fun _ => 0), u1 σ.2.2.2.2.1 (2000 + gM σ) (fun _ => 0), σ.2.2.2.2.2.1, gN σ, false, gM σ + 1, gZ σ + z, u1 σ.2.2.2.2.2.2.2.2.2.2 (2000 + gM σ) (k, n))
/-- the shape at a virtual address: kind (1 object, 2 int[], 3 boolean[], 4 long[], 5 int[][]), its number in vwCl or length, width -/
def shp : Nat → Nat × Nat × Nat := fun a => match a with
  | 1 => (1, 5, 0)
  | 2 => (2, 1200, 0)
  | 3 => (1, 0, 0)
  | 4 => (4, 12, 0)
  | 5 => (4, 6, 0)
  | 6 => (4, 8, 0)
  | 7 => (5, 12, 12)
  | 8 => (5, 12, 12)
  | 9 => (5, 5, 2)
  | 10 => (5, 16, 6)
  | 11 => (5, 16, 4)
  | 12 => (5, 8, 11)
  | 13 => (5, 8, 9)
  | 14 => (1, 0, 0)
  | 15 => (4, 12, 0)
  | 16 => (4, 6, 0)
  | 17 => (4, 8, 0)
  | 18 => (5, 12, 12)
  | 19 => (5, 12, 12)
  | 20 => (5, 5, 2)
  | 21 => (5, 16, 6)
  | 22 => (5, 16, 4)
  | 23 => (5, 8, 11)
  | 24 => (5, 8, 9)
  | 25 => (1, 2, 0)
  | 26 => (1, 1, 0)
  | 27 => (2, 8, 0)
  | 28 => (2, 8, 0)
  | 29 => (3, 8, 0)
  | 30 => (5, 8, 8)
  | 31 => (5, 8, 8)
  | 32 => (5, 6, 6)
  | 33 => (2, 6, 0)
  | 34 => (5, 14, 4)
  | 35 => (5, 14, 36)
  | 36 => (1, 4, 0)
  | 37 => (2, 8, 0)
  | 38 => (2, 8, 0)
  | 39 => (2, 8, 0)
  | 40 => (2, 8, 0)
  | 41 => (4, 8, 0)
  | 42 => (4, 8, 0)
  | 43 => (2, 8, 0)
  | 44 => (4, 8, 0)
  | 45 => (3, 8, 0)
  | 46 => (1, 3, 0)
  | 47 => (2, 6, 0)
  | 48 => (5, 6, 3)
  | 49 => (2, 8, 0)
  | 50 => (2, 6, 0)
  | _ => (0, 0, 0)
def siz (a : Nat) : Nat := if (shp a).1 = 0 then 0 else if (shp a).1 = 5 then (shp a).2.1 + 1 else 1
def off : Nat → Nat
  | 0 => 0
  | a + 1 => off a + siz a
theorem off_add : ∀ (d a : Nat), off (a + 1) ≤ off (a + 1 + d)
  | 0, _ => Nat.le_refl _
  | d + 1, a => Nat.le_trans (off_add d a) (Nat.le_add_right _ _)
theorem off_lt {a b : Nat} (h : a < b) : off a + siz a ≤ off b := by
  obtain ⟨d, rfl⟩ : ∃ d, b = a + 1 + d := ⟨b - a - 1, by omega⟩
  exact off_add d a
/-- where the cells are: the heap at the start, the numbers of the written sorts and their slots, of the array sorts (int, boolean, long, int[], byte), the constant objects (1000 and on) -/
abbrev Ev : Type := Heap × va_G × (Nat → ClassId) × (Nat → Nat) × (Nat → Nat × Nat) × (Nat → Nat → Int32) × (Nat → Nat → Nat)
def eH (E : Ev) : Heap := E.1
def eD (E : Ev) : va_G := E.2.1
def eA (E : Ev) : Nat → ClassId := E.2.2.1
def eX (E : Ev) : Nat → Nat := E.2.2.2.1
/-- what stands outside and is read as the law's own is: sorts, numbers, references -/
def oS (E : Ev) : Nat → Nat × Nat := E.2.2.2.2.1
def oI (E : Ev) : Nat → Nat → Int32 := E.2.2.2.2.2.1
def oR (E : Ev) : Nat → Nat → Nat := E.2.2.2.2.2.2
def eF (E : Ev) : Nat → Prop := fun q => (eH E).size ≤ q
def ad (E : Ev) (a : Nat) : Nat := if a < 1000 then (eH E).size + off a else if a < 2000 then eX E (a - 1000) else (eH E).size + off 51 + (a - 2000)
def rw1 (E : Ev) (g i : Nat) : Nat := ad E g + 1 + i
def rv0 (E : Ev) (r : Nat) : Value := if r = 0 then .null else .ref (ad E r)
theorem rv0_s {E : Ev} {r : Nat} (h : r ≠ 0) : rv0 E r = .ref (ad E r) := by unfold rv0; rw [if_neg h]
/-- which sort of field: 0 int and its like, 1 long, 2 reference -/
def fkd (t : FieldType) : Nat := match t with
  | .int => 0
  | .boolean => 0
  | .byte => 0
  | .long => 1
  | _ => 2
def fty (ci k : Nat) : FieldType := match ci with
  | 0 => tyX1 k
  | 1 => tyX2 k
  | 2 => tyX3 k
  | 3 => tyX4 k
  | 4 => tyX5 k
  | 5 => tyX7 k
  | 6 => tyX8 k
  | 7 => tyJ0 k
  | _ => tyJ4 k
def fva (E : Ev) (σ : Sg) (ci a k : Nat) : Value := if fkd (fty ci k) = 0 then .int (gI σ a k) else if fkd (fty ci k) = 1 then .long (gJ σ a k) else rv0 E (gR σ a k)
def cel (E : Ev) (σ : Sg) (H : Heap) (a : Nat) : Prop :=
  ((shp a).1 = 1 → ∃ r : vw_C, vwCl[(shp a).2.1]? = some r ∧ t_OB (ad E a) ((eD E).1 (shp a).2.1) r.2.2 ((eD E).2 (shp a).2.1) H (fun k => fva E σ (shp a).2.1 a k)) ∧
  ((shp a).1 = 2 → H[ad E a]? = some (arrV (eA E 0) (shp a).2.1 (fun j => .int (aI σ a j)))) ∧
  ((shp a).1 = 3 → H[ad E a]? = some (arrV (eA E 1) (shp a).2.1 (fun j => .int (aI σ a j)))) ∧
  ((shp a).1 = 4 → H[ad E a]? = some (arrV (eA E 2) (shp a).2.1 (fun j => .long (aJ σ a j)))) ∧
  ((shp a).1 = 5 → H[ad E a]? = some (arrV (eA E 3) (shp a).2.1 (fun i => .ref (rw1 E a i))) ∧ ∀ i, i < (shp a).2.1 → H[rw1 E a i]? = some (arrV (eA E 0) (shp a).2.2 (fun j => .int (aG σ a i j))))
/-- of those of the law -/
def dcel (E : Ev) (σ : Sg) (H : Heap) (a : Nat) : Prop :=
  ((gS σ a).1 = 1 → ∃ r : vw_C, vwCl[(gS σ a).2]? = some r ∧ t_OB (ad E a) ((eD E).1 (gS σ a).2) r.2.2 ((eD E).2 (gS σ a).2) H (fun k => fva E σ (gS σ a).2 a k)) ∧
  ((gS σ a).1 = 2 → H[ad E a]? = some (arrV (eA E 0) (gS σ a).2 (fun j => .int (aI σ a j)))) ∧
  ((gS σ a).1 = 3 → H[ad E a]? = some (arrV (eA E 1) (gS σ a).2 (fun j => .int (aI σ a j)))) ∧
  ((gS σ a).1 = 4 → H[ad E a]? = some (arrV (eA E 2) (gS σ a).2 (fun j => .long (aJ σ a j)))) ∧
  ((gS σ a).1 = 5 → H[ad E a]? = some (arrV (eA E 3) (gS σ a).2 (fun j => rv0 E (gR σ a j)))) ∧
  ((gS σ a).1 = 6 → H[ad E a]? = some (arrV (eA E 4) (gS σ a).2 (fun j => .int (aI σ a j))) ∧ ∀ j, (aI σ a j).toInt8.toInt32 = aI σ a j)
/-- what stands outside is as it was -/
def OutS (E : Ev) (σ : Sg) : Prop := ∀ a, 1000 ≤ a → a < 2000 → gS σ a = oS E a ∧ (∀ j, aI σ a j = oI E a j) ∧ (∀ j, gR σ a j = oR E a j) ∧ ∀ j, gI σ a j = 0
def DynS (E : Ev) (σ : Sg) (H : Heap) : Prop := (gF σ = false → gN σ = 51 ∧ H.size = (eH E).size + off 51 + gM σ) ∧ (gF σ = true → gM σ = 0) ∧ ∀ a, 2000 ≤ a → a < 2000 + gM σ → dcel E σ H a
/-- the heap holds the state -/
def Hd (E : Ev) (σ : Sg) (H : Heap) : Prop :=
  ((∀ q : Nat, q < (eH E).size → H[q]? = (eH E)[q]?) ∧ OutS E σ ∧ DynS E σ H) ∧ (eH E).size + off (gN σ) ≤ H.size ∧ (gF σ = true → H.size = (eH E).size + off (gN σ)) ∧ 0 < gN σ ∧ gN σ ≤ 51 ∧ ∀ a, 0 < a → a < gN σ → cel E σ H a
theorem ad_lt {E : Ev} {a : Nat} (h : a < 1000) : ad E a = (eH E).size + off a := if_pos h
theorem shp_big {a : Nat} (h : 51 ≤ a) : shp a = (0, 0, 0) := by
  unfold shp
  split <;> first | rfl | omega
/-- the cells of one virtual address -/
def own1 (E : Ev) (a q : Nat) : Prop := ad E a ≤ q ∧ q < ad E a + siz a
theorem own_ne {E : Ev} {a b q r : Nat} (ha : a < 1000) (hb : b < 1000) (hq : own1 E a q) (hr : own1 E b r) (hab : a ≠ b) : q ≠ r := by
  obtain ⟨h1, h2⟩ := hq
  obtain ⟨h3, h4⟩ := hr
  rw [ad_lt ha] at h1 h2
  rw [ad_lt hb] at h3 h4
  rcases Nat.lt_or_gt_of_ne hab with h | h
  · have := off_lt h
    omega
  · have := off_lt h
    omega
theorem own_0 {E : Ev} {a : Nat} (h : (shp a).1 ≠ 0) : own1 E a (ad E a) := by
  refine ⟨Nat.le_refl _, ?_⟩
  unfold siz
  rw [if_neg h]
  split <;> omega
theorem own_r {E : Ev} {a i : Nat} (h : (shp a).1 = 5) (hi : i < (shp a).2.1) : own1 E a (rw1 E a i) := by
  unfold own1 rw1 siz
  rw [if_neg (by rw [h]; decide), if_pos h]
  omega
/-- a cell stays, if neither its places nor what the state says of it has changed -/
theorem cel.kept {E : Ev} {σ σ' : Sg} {H H1 : Heap} {a : Nat} (h : cel E σ H a) (hq : ∀ q, own1 E a q → H1[q]? = H[q]?) (h1 : ∀ k, gI σ' a k = gI σ a k) (h2 : ∀ k, gJ σ' a k = gJ σ a k) (h3 : ∀ k, gR σ' a k = gR σ a k) (h4 : ∀ k, aI σ' a k = aI σ a k) (h5 : ∀ k, aJ σ' a k = aJ σ a k) (h6 : ∀ i j, aG σ' a i j = aG σ a i j) : cel E σ' H1 a := by
  obtain ⟨c1, c2, c3, c4, c5⟩ := h
  have h0 : (shp a).1 ≠ 0 → H1[ad E a]? = H[ad E a]? := fun h => hq _ (own_0 h)
  refine ⟨fun e => ?_, fun e => ?_, fun e => ?_, fun e => ?_, fun e => ?_⟩
  · obtain ⟨r, r1, r2⟩ := c1 e
    refine ⟨r, r1, (r2.kept (h0 (by rw [e]; decide))).to (fun k _ => ?_)⟩
    unfold fva
    rw [h1, h2, h3]
  · rw [h0 (by rw [e]; decide), c2 e]
    exact congrArg some (congrArg _ (funext fun j => by rw [h4]))
  · rw [h0 (by rw [e]; decide), c3 e]
    exact congrArg some (congrArg _ (funext fun j => by rw [h4]))
  · rw [h0 (by rw [e]; decide), c4 e]
    exact congrArg some (congrArg _ (funext fun j => by rw [h5]))
  · obtain ⟨d1, d2⟩ := c5 e
    refine ⟨by rw [h0 (by rw [e]; decide), d1], fun i hi => ?_⟩
    rw [hq _ (own_r e hi), d2 i hi]
    exact congrArg some (congrArg _ (funext fun j => by rw [h6]))
theorem ad_ge {E : Ev} {a : Nat} (h : 2000 ≤ a) : ad E a = (eH E).size + off 51 + (a - 2000) := by
  unfold ad
  rw [if_neg (by omega), if_neg (by omega)]
/-- one of the law's stays, if neither its place nor what the state says of it has changed -/
theorem dcel.kept {E : Ev} {σ σ' : Sg} {H H1 : Heap} {a : Nat} (h : dcel E σ H a) (h0 : H1[ad E a]? = H[ad E a]?) (hS : gS σ' a = gS σ a) (h1 : ∀ k, gI σ' a k = gI σ a k) (h2 : ∀ k, gJ σ' a k = gJ σ a k) (h3 : ∀ k, gR σ' a k = gR σ a k) (h4 : ∀ k, aI σ' a k = aI σ a k) (h5 : ∀ k, aJ σ' a k = aJ σ a k) : dcel E σ' H1 a := by
  obtain ⟨c1, c2, c3, c4, c5, c6⟩ := h
  unfold dcel
  rw [hS, h0]
  refine ⟨fun e => ?_, fun e => ?_, fun e => ?_, fun e => ?_, fun e => ?_, fun e => ?_⟩
  · obtain ⟨r, r1, r2⟩ := c1 e
    refine ⟨r, r1, (r2.kept h0).to (fun k _ => ?_)⟩
    unfold fva
    rw [h1, h2, h3]
  · rw [c2 e]
    exact congrArg some (congrArg _ (funext fun j => by rw [h4]))
  · rw [c3 e]
    exact congrArg some (congrArg _ (funext fun j => by rw [h4]))
  · rw [c4 e]
    exact congrArg some (congrArg _ (funext fun j => by rw [h5]))
  · rw [c5 e]
    exact congrArg some (congrArg _ (funext fun j => by rw [h3]))
  · refine ⟨?_, fun j => by rw [h4]; exact (c6 e).2 j⟩
    rw [(c6 e).1]
    exact congrArg some (congrArg _ (funext fun j => by rw [h4]))
/-- one place is written: all but one cell stay -/
theorem Hd.put {E : Ev} {σ σ' : Sg} {H H1 : Heap} {a q0 : Nat} (h : Hd E σ H) (ha0 : 0 < a) (haN : a < gN σ) (hq0 : own1 E a q0) (hz : H1.size = H.size) (oq : ∀ q : Nat, q ≠ q0 → H1[q]? = H[q]?) (hN : tl σ' = tl σ) (_hF : gF σ' = gF σ)
    (e1 : ∀ b, b ≠ a → ∀ k, gI σ' b k = gI σ b k) (e2 : ∀ b, b ≠ a → ∀ k, gJ σ' b k = gJ σ b k) (e3 : ∀ b, b ≠ a → ∀ k, gR σ' b k = gR σ b k) (e4 : ∀ b, b ≠ a → ∀ k, aI σ' b k = aI σ b k) (e5 : ∀ b, b ≠ a → ∀ k, aJ σ' b k = aJ σ b k) (e6 : ∀ b, b ≠ a → ∀ i j, aG σ' b i j = aG σ b i j)
    (hc : cel E σ' H1 a) : Hd E σ' H1 := by
  obtain ⟨⟨b1, bo, d1, d2, d3⟩, b2, b3, b4, b5, b6⟩ := h
  have eN : gN σ' = gN σ := congrArg (fun t : Tg => t.1) hN
  have eF' : gF σ' = gF σ := congrArg (fun t : Tg => t.2.1) hN
  have eM : gM σ' = gM σ := congrArg (fun t : Tg => t.2.2.1) hN
  have eS' : ∀ b, gS σ' b = gS σ b := fun b => congrArg (fun t : Tg => t.2.2.2.2 b) hN
  have haL : a < 1000 := by omega
  have hlow : (eH E).size ≤ q0 := by
    have := hq0.1
    rw [ad_lt haL] at this
    omega
  have hup : q0 < (eH E).size + off 51 := by
    have h1 := hq0.2
    rw [ad_lt haL] at h1
    have := off_lt (a := a) (b := 51) (by omega)
    omega
  refine ⟨⟨fun q hq => by rw [oq q (by omega)]; exact b1 q hq, fun b hb1 hb2 => ?_, fun hf => ?_, fun hf => ?_, fun b hb1 hb2 => ?_⟩, by rw [eN, hz]; exact b2, fun hf => by rw [eN, hz]; exact b3 (by rw [← eF']; exact hf), by rw [eN]; exact b4, by rw [eN]; exact b5, fun b hb0 hbN => ?_⟩
  · obtain ⟨o1, o2, o3, o4⟩ := bo b hb1 hb2
    have hba : b ≠ a := by omega
    exact ⟨by rw [eS']; exact o1, fun j => by rw [e4 b hba]; exact o2 j, fun j => by rw [e3 b hba]; exact o3 j, fun j => by rw [e1 b hba]; exact o4 j⟩
  · rw [eN, eM, hz]
    exact d1 (by rw [← eF']; exact hf)
  · rw [eM]
    exact d2 (by rw [← eF']; exact hf)
  · rw [eM] at hb2
    have hba : b ≠ a := by omega
    exact (d3 b hb1 hb2).kept (oq _ (by rw [ad_ge hb1]; omega)) (eS' b) (e1 b hba) (e2 b hba) (e3 b hba) (e4 b hba) (e5 b hba)
  · rw [eN] at hbN
    by_cases hab : b = a
    · subst hab; exact hc
    · exact (b6 b hb0 hbN).kept (fun q hq => oq q (own_ne (by omega) haL hq hq0 hab)) (e1 b hab) (e2 b hab) (e3 b hab) (e4 b hab) (e5 b hab) (e6 b hab)
/-- the same of one of the law's -/
theorem Hd.dput {E : Ev} {σ σ' : Sg} {H H1 : Heap} {a : Nat} (h : Hd E σ H) (ha0 : 2000 ≤ a) (haN : a < 2000 + gM σ) (hz : H1.size = H.size) (oq : ∀ q : Nat, q ≠ ad E a → H1[q]? = H[q]?) (hN : tl σ' = tl σ)
    (e1 : ∀ b, b ≠ a → ∀ k, gI σ' b k = gI σ b k) (e2 : ∀ b, b ≠ a → ∀ k, gJ σ' b k = gJ σ b k) (e3 : ∀ b, b ≠ a → ∀ k, gR σ' b k = gR σ b k) (e4 : ∀ b, b ≠ a → ∀ k, aI σ' b k = aI σ b k) (e5 : ∀ b, b ≠ a → ∀ k, aJ σ' b k = aJ σ b k) (e6 : ∀ b i j, aG σ' b i j = aG σ b i j)
    (hc : dcel E σ' H1 a) : Hd E σ' H1 := by
  obtain ⟨⟨b1, bo, d1, d2, d3⟩, b2, b3, b4, b5, b6⟩ := h
  have eN : gN σ' = gN σ := congrArg (fun t : Tg => t.1) hN
  have eF' : gF σ' = gF σ := congrArg (fun t : Tg => t.2.1) hN
  have eM : gM σ' = gM σ := congrArg (fun t : Tg => t.2.2.1) hN
  have eS' : ∀ b, gS σ' b = gS σ b := fun b => congrArg (fun t : Tg => t.2.2.2.2 b) hN
  have hq0 := ad_ge (E := E) ha0
  refine ⟨⟨fun q hq => by rw [oq q (by omega)]; exact b1 q hq, fun b hb1 hb2 => ?_, fun hf => ?_, fun hf => ?_, fun b hb1 hb2 => ?_⟩, by rw [eN, hz]; exact b2, fun hf => by rw [eN, hz]; exact b3 (by rw [← eF']; exact hf), by rw [eN]; exact b4, by rw [eN]; exact b5, fun b hb0 hbN => ?_⟩
  · obtain ⟨o1, o2, o3, o4⟩ := bo b hb1 hb2
    have hba : b ≠ a := by omega
    exact ⟨by rw [eS']; exact o1, fun j => by rw [e4 b hba]; exact o2 j, fun j => by rw [e3 b hba]; exact o3 j, fun j => by rw [e1 b hba]; exact o4 j⟩
  · rw [eN, eM, hz]
    exact d1 (by rw [← eF']; exact hf)
  · rw [eM]
    exact d2 (by rw [← eF']; exact hf)
  · rw [eM] at hb2
    by_cases hba : b = a
    · subst hba; exact hc
    · refine (d3 b hb1 hb2).kept (oq _ ?_) (eS' b) (e1 b hba) (e2 b hba) (e3 b hba) (e4 b hba) (e5 b hba)
      rw [ad_ge hb1, hq0]
      omega
  · rw [eN] at hbN
    have hab : b ≠ a := by omega
    refine (b6 b hb0 hbN).kept (fun q hq => oq q ?_) (e1 b hab) (e2 b hab) (e3 b hab) (e4 b hab) (e5 b hab) (e6 b)
    have h1 := hq.2
    rw [ad_lt (by omega)] at h1
    have := off_lt (a := b) (b := 51) (by omega)
    omega
/-- names of the words of the text, and their codes -/
def tokN : List String := ["END", "BAD", "SEMICOLON", "NUMBER", "NAME", "PLACE", "CARRIER", "LEG", "BAND", "PROVISO", "ANY", "FIXED", "PART", "LEAST", "MOST", "WITH", "BASE", "RATE", "TICKET", "MILES"]
def tokC : List Int64 := [0, 0, 0, 0, 0, 8740067, 1186537320, 8890, 40477, 6465419880, 1132, 3383428, 316163, 6476969, 267347, 459818, 40613, 355568, 291828332, 7094782]
def swm : List Int32 := [0, 0, 0, 0, 0, 1, 2, 3, 4, 5, 0, 9, 10, 11, 12, 0, 6, 7, 8, 0]
/-- the law's texts: entry, text, where (virtual 1000 and that; its letters 30 further on) -/
def strL : List (Nat × String × Nat) := [(21, " ", 30), (59, "p", 31), (64, "c", 32), (66, "rate ", 33), (74, ";", 34), (76, "place ", 35), (82, "carrier ", 36), (87, "leg ", 37), (98, "band ", 38), (109, "proviso ", 39), (111, " any ", 40), (117, "", 41), (119, " with ", 42), (128, "base ", 43), (136, "ticket t", 44), (144, " miles ", 45), (146, " base ", 46), (284, "fixed", 47), (286, "part", 48), (288, "least", 49), (290, "most", 50)]
def strB : List (List Int32) := [[32], [112], [99], [114, 97, 116, 101, 32], [59], [112, 108, 97, 99, 101, 32], [99, 97, 114, 114, 105, 101, 114, 32], [108, 101, 103, 32], [98, 97, 110, 100, 32], [112, 114, 111, 118, 105, 115, 111, 32], [32, 97, 110, 121, 32], [], [32, 119, 105, 116, 104, 32], [98, 97, 115, 101, 32], [116, 105, 99, 107, 101, 116, 32, 116], [32, 109, 105, 108, 101, 115, 32], [32, 98, 97, 115, 101, 32], [102, 105, 120, 101, 100], [112, 97, 114, 116], [108, 101, 97, 115, 116], [109, 111, 115, 116]]
def xAO (U : State) : Prop := (Cond.arrayOver (.array .int)).before #[] U = true
theorem xAO.moved {u U : State} (hvm : u.vm.Alike U.vm) (h : xAO u) : xAO U := Jvm.Stand.arrayOver_alikeB hvm h
def isNest : Cond → Bool
  | .fieldLinkNest _ _ _ _ _ _ => true
  | .methodLinkNest _ _ _ _ => true
  | .castable _ _ => true
  | _ => false
def tblN : List Cond := lw_tbl.filter isNest
theorem tN {w : Cond} (i : Nat) (h : lw_tbl[i]? = some w) (hg : isNest w = true) : w ∈ tblN := List.mem_filter.mpr ⟨List.mem_of_getElem? h, hg⟩
def KN (U : State) : Prop := ∀ w ∈ tblN, va_Nw w U
theorem KN.warm {s U : State} (hW : s.WarmedH U.vm) (h : KN s) : KN U := by
  intro w hw
  have h1 := h w hw
  have h2 := (List.mem_filter.mp hw).2
  cases w <;> first | exact va_Nw.warmF hW h1 | exact va_Nw.warmM hW h1 | exact va_Nw.warmC hW h1 | cases h2
theorem KN.same {u U : State} (hv : U.vm = u.vm) (h : KN u) : KN U := by
  intro w hw
  have h1 := h w hw
  have h2 := (List.mem_filter.mp hw).2
  cases w <;> first | exact va_Nw.same rfl hv.symm h1 | cases h2
/-- what stands outside and is read as the law's own is -/
def outF (E : Ev) (a : Nat) (U : State) : Prop :=
  ((oS E a).1 = 2 → va_T .int (ad E a) (oS E a).2 (fun j => .int (oI E a j)) (eF E) U (eH E)) ∧
  ((oS E a).1 = 6 → va_T .byte (ad E a) (oS E a).2 (fun j => .int (oI E a j)) (eF E) U (eH E) ∧ ∀ j, (oI E a j).toInt8.toInt32 = oI E a j) ∧
  ((oS E a).1 = 7 → va_O "java/lang/String" (ad E a) (eF E) U (eH E) ∧ va_OF "java/lang/String" "value" "[B" (rv0 E (oR E a 0)) (ad E a) (eF E) U (eH E) ∧ va_OF "java/lang/String" "coder" "B" (.int 0) (ad E a) (eF E) U (eH E)) ∧
  ((oS E a).1 = 8 → va_T (.object "java/lang/String") (ad E a) (oS E a).2 (fun j => rv0 E (oR E a j)) (eF E) U (eH E))
theorem outF.moved {E : Ev} {a : Nat} {u U : State} (hv : u.vm.Alike U.vm) (h : outF E a u) : outF E a U :=
  ⟨fun e => (h.1 e).moved hv, fun e => ⟨(h.2.1 e).1.moved hv, (h.2.1 e).2⟩, fun e => ⟨(h.2.2.1 e).1.moved hv, (h.2.2.1 e).2.1.moved hv, (h.2.2.1 e).2.2.moved hv⟩, fun e => (h.2.2.2 e).moved hv⟩
/-- what stands outside the system: the words of the text, their tables, statics, the law's texts -/
def KX (E : Ev) (U : State) : Prop :=
  va_En "Prorates$Token" "LProrates$Token;" tokN [("java/lang/Enum", "ordinal", "I", [0, 1, 2, 3, 4, 5, 6, 7, 8, 9, 10, 11, 12, 13, 14, 15, 16, 17, 18, 19])] (eX E) (eF E) U (eH E) ∧
  (∀ i, i < 20 → va_OF "Prorates$Token" "code" "J" (.long (tokC.getD i 0)) (eX E i) (eF E) U (eH E)) ∧
  va_Z "Prorates$Reader" "TOKENS" "[LProrates$Token;" (.ref (eX E 20)) (eF E) U (eH E) ∧
  va_T (.object "Prorates$Token") (eX E 20) 20 (fun j => .ref (eX E j)) (eF E) U (eH E) ∧
  va_Z "Prorates$1" "$SwitchMap$Prorates$Token" "[I" (.ref (eX E 21)) (eF E) U (eH E) ∧
  va_T .int (eX E 21) 20 (fun j => .int (swm.getD j 0)) (eF E) U (eH E) ∧
  va_Z "java/lang/String" "COMPACT_STRINGS" "Z" (.int 1) (eF E) U (eH E) ∧
  va_Zq "jdk/internal/util/Preconditions" "SIOOBE_FORMATTER" "Ljava/util/function/BiFunction;" (eF E) U (eH E) ∧
  va_Z "ProratesLaw" "KINDS" "[Ljava/lang/String;" (.ref (eX E 25)) (eF E) U (eH E) ∧
  va_Z "java/lang/Integer" "DigitOnes" "[B" (.ref (eX E 26)) (eF E) U (eH E) ∧
  va_Z "java/lang/Integer" "DigitTens" "[B" (.ref (eX E 27)) (eF E) U (eH E) ∧
  (∀ q ∈ strL, vk_R "ProratesLaw" q.1 q.2.1 (eX E q.2.2) U) ∧
  (∀ a, 1000 ≤ a → a < 2000 → outF E a U) ∧ xAO U ∧ KN U
theorem kxC {E : Ev} {U : State} (h : KX E U) : va_Z "java/lang/String" "COMPACT_STRINGS" "Z" (.int 1) (eF E) U (eH E) := h.2.2.2.2.2.2.1
theorem kxQ {E : Ev} {U : State} (h : KX E U) : va_Zq "jdk/internal/util/Preconditions" "SIOOBE_FORMATTER" "Ljava/util/function/BiFunction;" (eF E) U (eH E) := h.2.2.2.2.2.2.2.1
theorem kxK {E : Ev} {U : State} (h : KX E U) : va_Z "ProratesLaw" "KINDS" "[Ljava/lang/String;" (.ref (eX E 25)) (eF E) U (eH E) := h.2.2.2.2.2.2.2.2.1
theorem kx1 {E : Ev} {U : State} (h : KX E U) : va_Z "java/lang/Integer" "DigitOnes" "[B" (.ref (eX E 26)) (eF E) U (eH E) := h.2.2.2.2.2.2.2.2.2.1
theorem kx10 {E : Ev} {U : State} (h : KX E U) : va_Z "java/lang/Integer" "DigitTens" "[B" (.ref (eX E 27)) (eF E) U (eH E) := h.2.2.2.2.2.2.2.2.2.2.1
theorem kxS {E : Ev} {U : State} (h : KX E U) : ∀ q ∈ strL, vk_R "ProratesLaw" q.1 q.2.1 (eX E q.2.2) U := h.2.2.2.2.2.2.2.2.2.2.2.1
theorem kxO {E : Ev} {U : State} (h : KX E U) : ∀ a, 1000 ≤ a → a < 2000 → outF E a U := h.2.2.2.2.2.2.2.2.2.2.2.2.1
theorem kxA {E : Ev} {U : State} (h : KX E U) : xAO U := h.2.2.2.2.2.2.2.2.2.2.2.2.2.1
theorem kxN {E : Ev} {U : State} (h : KX E U) : KN U := h.2.2.2.2.2.2.2.2.2.2.2.2.2.2
abbrev tyL (E : Ev) : List (ClassId × FieldType) := [(eA E 0, .int), (eA E 1, .boolean), (eA E 2, .long), (eA E 3, .array .int), (eA E 4, .byte)]
def KU (E : Ev) (U : State) : Prop := va_K (eD E) vwCl (tyL E) U ∧ KX E U
theorem KX.warm {E : Ev} {s U : State} (hW : s.WarmedH U.vm) (h : KX E s) : KX E U := by
  obtain ⟨h1, h2, h3, h4, h5, h6, h7, h8, h9, h10, h11, h12, h13, h14, h15⟩ := h
  have hv := hW.alike
  exact ⟨h1.moved hv, fun i hi => (h2 i hi).moved hv, h3.moved hv, h4.moved hv, h5.moved hv, h6.moved hv, h7.moved hv, h8.moved hv, h9.moved hv, h10.moved hv, h11.moved hv, fun q hq => (h12 q hq).warm hW, fun a ha hb => (h13 a ha hb).moved hv, h14.moved hv, h15.warm hW⟩
theorem KU.warm {E : Ev} {s U : State} (hW : s.WarmedH U.vm) (h : KU E s) : KU E U := ⟨h.1.moved hW.alike, h.2.warm hW⟩
theorem KX.same {E : Ev} {u U : State} (hv : U.vm = u.vm) (h : KX E u) : KX E U := by
  obtain ⟨h1, h2, h3, h4, h5, h6, h7, h8, h9, h10, h11, h12, h13, h14, h15⟩ := h
  have ha : u.vm.Alike U.vm := by rw [hv]; exact Vm.Alike.refl _
  exact ⟨h1.moved ha, fun i hi => (h2 i hi).moved ha, h3.moved ha, h4.moved ha, h5.moved ha, h6.moved ha, h7.moved ha, h8.moved ha, h9.moved ha, h10.moved ha, h11.moved ha, fun q hq => (h12 q hq).same hv, fun a hb hc => (h13 a hb hc).moved ha, h14.moved ha, h15.same hv⟩
theorem KU.same {E : Ev} {u U : State} (hv : U.vm = u.vm) (h : KU E u) : KU E U := ⟨h.1.moved (by rw [hv]; exact Vm.Alike.refl _), h.2.same hv⟩
/-- a method's start, and its end -/
def PdX (E : Ev) (vs : List Value) (σ : Sg) : Array Value → State → Prop := fun a U => a = vs.toArray ∧ Hd E σ U.heap ∧ KU E U
def QdX (E : Ev) (r : Option Value) (σ : Sg) : Array Value → State → Outcome → State → Prop := fun _ _ o t => o = .returned r ∧ Hd E σ t.heap ∧ KU E t
theorem PdX.blind {E : Ev} {vs : List Value} {σ : Sg} : FrameBlind (PdX E vs σ) := fun a U g mk h => ⟨h.1, h.2.1, KU.same (u := U) (U := U.calling g mk a) rfl h.2.2⟩
/-- private members of the class above, asked of a StringBuilder -/
def xSel : List Cond := [Cond.selects RJ4 yJ5_newCapacity_0f7a4 yJ5_newCapacity_0f7a4, Cond.selects RJ4 yJ5_inflateIfNeededFor_a7421 yJ5_inflateIfNeededFor_a7421, Cond.selects RJ4 yJ5_putStringAt_47b60 yJ5_putStringAt_47b60, Cond.selects RJ4 yJ5_ensureCapacityInternal_d00df yJ5_ensureCapacityInternal_d00df]
def tblG : List Cond := (lw_tbl ++ xSel).filter goodWord
theorem tG {w : Cond} (i : Nat) (h : lw_tbl[i]? = some w) (hg : goodWord w = true) : w ∈ tblG := List.mem_filter.mpr ⟨List.mem_append_left _ (List.mem_of_getElem? h), hg⟩
theorem tX {w : Cond} (i : Nat) (h : xSel[i]? = some w) (hg : goodWord w = true) : w ∈ tblG := List.mem_filter.mpr ⟨List.mem_append_right _ (List.mem_of_getElem? h), hg⟩
def wsA (y : MethodName) (b : ByteArray) (n : Nat) (r : Option FieldType) : List Cond := .code y b n r :: tblG
/-- the room of a method under which h further ones may stand, which makes mc cells of ms places -/
def rmA (h mc ms : Nat) : Room := { frames := h, cells := mc, slots := ms, locals := 40 * h }
/-- a method's contract for one start and one end -/
def Mt (E : Ev) (l : Launch) (y : MethodName) (b : ByteArray) (n : Nat) (rt : Option FieldType) (h mc ms : Nat) (vs : List Value) (σ : Sg) (r : Option Value) (σ' : Sg) : Prop :=
  Met l y (wsA y b n rt) (rmA h mc ms) (PdX E vs σ) (QdX E r σ') mc ms (eF E)
def Cx (E : Ev) (p : Program) (s : State) (m : MethodId) (args : Array Value) (meth : Method) (c : Code) (own : String) (cc : ByteArray) (nL : Nat) : Prop :=
  p.tables.exec = Jvm.exec ∧ c.code = cc ∧ c.maxLocals = nL ∧ s.vm.findClass own = some m.cls ∧ (∀ w ∈ tblG, w.before args s = true) ∧ KU E s ∧ meth.locks = false
/-- what of the locals is known -/
def xL (ls : Array Slot) (nL : Nat) (L : List (Option Value)) : Prop := ls.size = nL ∧ lv_wf ls ∧ ∀ (i : Nat) (v : Value), L[i]? = some (some v) → ls[i]? = some (.val v)
/-- fewer of them -/
def xLe : List (Option Value) → List (Option Value) → Prop
  | [], _ => True
  | none :: L, _ :: M => xLe L M
  | none :: L, [] => xLe L []
  | some v :: L, w :: M => w = some v ∧ xLe L M
  | some _ :: _, [] => False
theorem xLe.get : ∀ {L M : List (Option Value)}, xLe L M → ∀ (i : Nat) (v : Value), L[i]? = some (some v) → M[i]? = some (some v)
  | [], _, _, i, v, h => by simp at h
  | none :: L, w :: M, hl, 0, v, h => by simp at h
  | none :: L, w :: M, hl, i + 1, v, h => xLe.get (L := L) (M := M) hl i v h
  | none :: L, [], hl, 0, v, h => by simp at h
  | none :: L, [], hl, i + 1, v, h => by
    have := xLe.get (L := L) (M := []) hl i v h
    simp at this
  | some a :: L, w :: M, hl, 0, v, h => by
    have h1 := hl.1
    simp at h
    subst h
    simp [h1]
  | some a :: L, w :: M, hl, i + 1, v, h => xLe.get (L := L) (M := M) hl.2 i v h
  | some _ :: _, [], hl, _, _, _ => hl.elim
theorem KN_of {E : Ev} {p : Program} {s : State} {m : MethodId} {args : Array Value} {meth : Method} {c : Code} {own : String} {cc : ByteArray} {nL : Nat} (C : Cx E p s m args meth c own cc nL) {w : Cond} (h : w ∈ tblN) (hw : w.onTables = true) : w.before args s = true := va_Nw.use hw (kxN C.2.2.2.2.2.1.2 w h)
theorem xL.le {ls : Array Slot} {nL : Nat} {L M : List (Option Value)} (h : xL ls nL M) (hl : xLe L M) : xL ls nL L := ⟨h.1, h.2.1, fun i v hv => h.2.2 i v (hl.get i v hv)⟩

/-! THE BOOK while the law's text is read -/
def QM (L : Nat → Nat → Int) (M : Nat → Nat → Int) : Prop := (∀ x, x < 12 → M x x = 0) ∧ (∀ x y, x < 12 → y < 12 → x ≠ y → M x y ≤ L x y) ∧ ∀ x y z, x < 12 → y < 12 → z < 12 → M x z ≤ M x y + M y z
def Clo (L D : Nat → Nat → Int) : Prop := QM L D ∧ ∀ M, QM L M → ∀ x y, x < 12 → y < 12 → M x y ≤ D x y
theorem clo_uniq {L D E : Nat → Nat → Int} (h : Clo L D) (k : Clo L E) {x y : Nat} (hx : x < 12) (hy : y < 12) : D x y = E x y :=
  Int.le_antisymm (k.2 D h.1 x y hx hy) (h.2 E k.1 x y hx hy)
def stW (W : Nat → Nat) (c v : Nat) (j : Nat) : Nat := if j = 0 then W 0 + 1 else if j = c then v else W j
theorem clo_leg {L L' D : Nat → Nat → Int} {a b : Nat} {m : Int} (h : Clo L D) (ha : a < 12) (hb : b < 12) (hm : 1 ≤ m) (hnn : ∀ x y, x < 12 → y < 12 → 0 ≤ D x y) (e1 : L' a b = m) (e2 : L' b a = m)
    (e3 : ∀ x y, ¬ (x = a ∧ y = b) → ¬ (x = b ∧ y = a) → L' x y = L x y) (e4 : ∀ x y, x < 12 → y < 12 → L' x y ≤ L x y) : Clo L' (lgF D a b m) := by
  obtain ⟨⟨q1, q2, q3⟩, g⟩ := h
  have za := q1 a ha
  have zb := q1 b hb
  refine ⟨⟨fun x hx => ?_, fun x y hx hy hxy => ?_, fun x y z hx hy hz => ?_⟩, fun M hM x y hx hy => ?_⟩
  · have t0 := q1 x hx
    have t1 := hnn x a hx ha
    have t2 := hnn x b hx hb
    have t3 := hnn a x ha hx
    have t4 := hnn b x hb hx
    unfold lgF
    omega
  · unfold lgF
    by_cases c1 : x = a ∧ y = b
    · obtain ⟨rfl, rfl⟩ := c1
      rw [e1]
      omega
    · by_cases c2 : x = b ∧ y = a
      · obtain ⟨rfl, rfl⟩ := c2
        rw [e2]
        omega
      · rw [e3 x y c1 c2]
        have := q2 x y hx hy hxy
        omega
  · have t1 := q3 x y z hx hy hz
    have t2 := q3 x y a hx hy ha
    have t3 := q3 x y b hx hy hb
    have t4 := q3 a y z ha hy hz
    have t5 := q3 b y z hb hy hz
    have t6 := q3 x a z hx ha hz
    have t7 := q3 x b z hx hb hz
    have n1 := hnn b y hb hy
    have n2 := hnn y a hy ha
    have n3 := hnn a y ha hy
    have n4 := hnn y b hy hb
    unfold lgF
    omega
  · obtain ⟨r1, r2, r3⟩ := hM
    have hQ : QM L M := ⟨r1, fun x y hx hy hxy => Int.le_trans (r2 x y hx hy hxy) (e4 x y hx hy), r3⟩
    have G := g M hQ
    have t0 := G x y hx hy
    have t1 := G x a hx ha
    have t2 := G x b hx hb
    have t3 := G a y ha hy
    have t4 := G b y hb hy
    have s1 := r3 x a y hx ha hy
    have s2 := r3 x b y hx hb hy
    have s3 := r3 a b y ha hb hy
    have s4 := r3 b a y hb ha hy
    by_cases hab : a = b
    · subst hab
      unfold lgF
      omega
    · have u1 := r2 a b ha hb hab
      have u2 := r2 b a hb ha (Ne.symm hab)
      rw [e1] at u1
      rw [e2] at u2
      unfold lgF
      omega
theorem lg_in {L' D Dt : Nat → Nat → Int} {a b i j : Nat} {m : Int} (hQ : QM L' (lgF D a b m)) (ha : a < 12) (hb : b < 12) (hab : a ≠ b) (e1 : L' a b = m) (e2 : L' b a = m) (hi : i < 12) (hj : j < 12)
    (h : ∀ x y, x < 12 → y < 12 → lgF D a b m x y ≤ Dt x y ∧ Dt x y ≤ D x y) : lgF Dt a b m i j = lgF D a b m i j := by
  obtain ⟨r1, r2, r3⟩ := hQ
  have u1 := r2 a b ha hb hab
  have u2 := r2 b a hb ha (Ne.symm hab)
  rw [e1] at u1
  rw [e2] at u2
  have s1 := r3 i a j hi ha hj
  have s2 := r3 i b j hi hb hj
  have s3 := r3 a b j ha hb hj
  have s4 := r3 b a j hb ha hj
  have h0 := h i j hi hj
  have h1 := h i a hi ha
  have h2 := h b j hb hj
  have h3 := h i b hi hb
  have h4 := h a j ha hj
  have e : lgF D a b m i j = min (D i j) (min (D i a + m + D b j) (D i b + m + D a j)) := rfl
  have e' : lgF Dt a b m i j = min (Dt i j) (min (Dt i a + m + Dt b j) (Dt i b + m + Dt a j)) := rfl
  omega
theorem clo_far {L D : Nat → Nat → Int} {x : Nat} (h : Clo L D) (hx : x < 12) (hL : ∀ u v, u < 12 → v < 12 → u ≠ v → 0 ≤ L u v) (h1 : ∀ y, y < 12 → y ≠ x → L x y = 1000000 ∧ L y x = 1000000) : ∀ y, y < 12 → y ≠ x → 1000000 ≤ D x y ∧ 1000000 ≤ D y x := by
  have hQ : QM L (fun u v => if u ≠ v ∧ (u = x ∨ v = x) then 1000000 else 0) := by
    refine ⟨fun u hu => if_neg (fun z => z.1 rfl), fun u v hu hv huv => ?_, fun u v w hu hv hw => ?_⟩
    · show (if u ≠ v ∧ (u = x ∨ v = x) then (1000000 : Int) else 0) ≤ L u v
      split
      · rename_i c
        rcases c.2 with rfl | rfl
        · have := (h1 v hv (Ne.symm huv)).1
          omega
        · have := (h1 u hu huv).2
          omega
      · exact hL u v hu hv huv
    · show (if u ≠ w ∧ (u = x ∨ w = x) then (1000000 : Int) else 0) ≤ (if u ≠ v ∧ (u = x ∨ v = x) then 1000000 else 0) + (if v ≠ w ∧ (v = x ∨ w = x) then 1000000 else 0)
      by_cases c : u ≠ w ∧ (u = x ∨ w = x)
      · rw [if_pos c]
        by_cases c1 : u ≠ v ∧ (u = x ∨ v = x)
        · rw [if_pos c1]; split <;> omega
        · have c2 : v ≠ w ∧ (v = x ∨ w = x) := by omega
          rw [if_pos c2]; split <;> omega
      · rw [if_neg c]
        split <;> split <;> omega
  intro y hy hyx
  have a := h.2 _ hQ x y hx hy
  have b := h.2 _ hQ y x hy hx
  have a' : (if x ≠ y ∧ (x = x ∨ y = x) then (1000000 : Int) else 0) ≤ D x y := a
  have b' : (if y ≠ x ∧ (y = x ∨ x = x) then (1000000 : Int) else 0) ≤ D y x := b
  rw [if_pos ⟨Ne.symm hyx, Or.inl rfl⟩] at a'
  rw [if_pos ⟨hyx, Or.inr rfl⟩] at b'
  exact ⟨a', b'⟩
theorem clo_cg {L L' D D' : Nat → Nat → Int} (h : Clo L D) (e : ∀ x y, x < 12 → y < 12 → L' x y = L x y) (f : ∀ x y, x < 12 → y < 12 → D' x y = D x y) : Clo L' D' := by
  obtain ⟨⟨q1, q2, q3⟩, g⟩ := h
  refine ⟨⟨fun x hx => ?_, fun x y hx hy hxy => ?_, fun x y z hx hy hz => ?_⟩, fun M hM x y hx hy => ?_⟩
  · rw [f x x hx hx]; exact q1 x hx
  · rw [f x y hx hy, e x y hx hy]; exact q2 x y hx hy hxy
  · rw [f x y hx hy, f x z hx hz, f y z hy hz]; exact q3 x y z hx hy hz
  · rw [f x y hx hy]
    exact g M ⟨hM.1, fun x y hx hy hxy => by have := hM.2.1 x y hx hy hxy; rw [e x y hx hy] at this; exact this, hM.2.2⟩ x y hx hy
theorem lgF_d {D : Nat → Nat → Int32} {a b x y : Nat} {m : Int} : lgF (fun u v => (D u v).toInt) a b m x y = min (D x y).toInt (min ((D x a).toInt + m + (D b y).toInt) ((D x b).toInt + m + (D a y).toInt)) := rfl
theorem al_ok {D : Nat → Nat → Int32} {L L' : Nat → Nat → Int} {a b : Nat} {m : Int32} (h : Clo L (fun x y => (D x y).toInt)) (bd : ∀ x y, x < 12 → y < 12 → 0 ≤ (D x y).toInt ∧ (D x y).toInt ≤ 1000000) (hm : 1 ≤ m.toInt ∧ m.toInt ≤ 9999) (ha : a < 12) (hb : b < 12) (hab : a ≠ b)
    (e1 : L' a b = m.toInt) (e2 : L' b a = m.toInt) (e3 : ∀ x y, ¬ (x = a ∧ y = b) → ¬ (x = b ∧ y = a) → L' x y = L x y) (e4 : ∀ x y, x < 12 → y < 12 → L' x y ≤ L x y) :
    AlOK D a b m ∧ Clo L' (fun x y => (lgI D a b m x y).toInt) ∧ ∀ x y, x < 12 → y < 12 → 0 ≤ (lgI D a b m x y).toInt ∧ (lgI D a b m x y).toInt ≤ 1000000 := by
  have C := clo_leg h ha hb hm.1 (fun x y hx hy => (bd x y hx hy).1) e1 e2 e3 e4
  have E : ∀ x y, x < 12 → y < 12 → (lgI D a b m x y).toInt = lgF (fun u v => (D u v).toInt) a b m.toInt x y := fun x y hx hy => lgI_int bd hm ha hb hx hy
  have B : ∀ x y, x < 12 → y < 12 → 0 ≤ (lgI D a b m x y).toInt ∧ (lgI D a b m x y).toInt ≤ 1000000 ∧ (lgI D a b m x y).toInt ≤ (D x y).toInt := by
    intro x y hx hy
    rw [E x y hx hy, lgF_d]
    have t0 := bd x y hx hy
    have t1 := bd x a hx ha
    have t2 := bd x b hx hb
    have t3 := bd a y ha hy
    have t4 := bd b y hb hy
    omega
  refine ⟨fun Dt i j hi hj hd => ?_, clo_cg C (fun _ _ _ _ => rfl) E, fun x y hx hy => ⟨(B x y hx hy).1, (B x y hx hy).2.1⟩⟩
  have bt : ∀ x y, x < 12 → y < 12 → 0 ≤ (Dt x y).toInt ∧ (Dt x y).toInt ≤ 1000000 := fun x y hx hy => by
    rcases hd x y hx hy with z | z
    · rw [z]; exact bd x y hx hy
    · rw [z]; exact ⟨(B x y hx hy).1, (B x y hx hy).2.1⟩
  refine Int32.toInt_inj.mp ?_
  rw [lgI_int bt hm ha hb hi hj, E i j hi hj]
  refine lg_in C.1 ha hb hab e1 e2 hi hj (fun x y hx hy => ?_)
  show lgF (fun u v => (D u v).toInt) a b m.toInt x y ≤ (Dt x y).toInt ∧ (Dt x y).toInt ≤ (D x y).toInt
  have e := E x y hx hy
  have b0 := B x y hx hy
  rcases hd x y hx hy with z | z <;> rw [z] <;> omega
theorem clo_pos {L D : Nat → Nat → Int} (h : Clo L D) (hL : ∀ u v, u < 12 → v < 12 → u ≠ v → 1 ≤ L u v) {x y : Nat} (hx : x < 12) (hy : y < 12) (hxy : x ≠ y) : 1 ≤ D x y := by
  have hQ : QM L (fun u v => if u = v then 0 else 1) := by
    refine ⟨fun u hu => if_pos rfl, fun u v hu hv huv => ?_, fun u v w hu hv hw => ?_⟩
    · show (if u = v then (0 : Int) else 1) ≤ L u v
      rw [if_neg huv]
      exact hL u v hu hv huv
    · show (if u = w then (0 : Int) else 1) ≤ (if u = v then 0 else 1) + (if v = w then 0 else 1)
      by_cases c : u = w
      · rw [if_pos c]
        split <;> split <;> omega
      · rw [if_neg c]
        by_cases c1 : u = v
        · have c2 : ¬ v = w := fun z => c (c1.trans z)
          rw [if_neg c2]
          split <;> omega
        · rw [if_neg c1]
          split <;> omega
  have a : (if x = y then (0 : Int) else 1) ≤ D x y := h.2 _ hQ x y hx hy
  rw [if_neg hxy] at a
  exact a
/-- what of the law's text stands in the book 14 -/
def Pm (c : Nat → Int32) (W : Nat → Nat) (τ : Sg) : Prop := Nms τ 15 (W 1) plN ∧ Nms τ 16 (W 2) caN ∧ Nms τ 17 (W 9) tkN
def Pl (L : Nat → Nat → Int) (τ : Sg) : Prop := (∀ x y, x < 12 → y < 12 → L x y = 1000000 → aG τ 18 x y = 0) ∧ Clo L (fun x y => (aG τ 19 x y).toInt) ∧ ∀ x y, x < 12 → y < 12 → 0 ≤ (aG τ 19 x y).toInt ∧ (aG τ 19 x y).toInt ≤ 1000000
def Pb (c : Nat → Int32) (k : Nat) (τ : Sg) : Prop := ∀ i, i < k → aG τ 20 i 0 = nI (nUp c i) ∧ aG τ 20 i 1 = nI (nWt c i)
def Pv (c : Nat → Int32) (k : Nat) (τ : Sg) : Prop := ∀ i, i < k → aG τ 21 i 0 = nI (pC c i) ∧ aG τ 21 i 1 = (if pA c i then -2 else nI (pX c i)) ∧ aG τ 21 i 2 = (if pA c i then -2 else nI (pY c i)) ∧ aG τ 21 i 3 = nI (pK c i) ∧ aG τ 21 i 4 = nI (pV c i) ∧ aG τ 21 i 5 = (if pW c i then nI (pO c i) else -2)
def Ps (c : Nat → Int32) (k : Nat) (τ : Sg) : Prop := ∀ i, i < k → aG τ 22 i 0 = nI (bC c i) ∧ aG τ 22 i 1 = nI (bP c i) ∧ aG τ 22 i 2 = nI (bP c i + 1) ∧ aG τ 22 i 3 = nI (bV c i)
def Pt (c : Nat → Int32) (k : Nat) (τ : Sg) : Prop := ∀ t, t < k → aG τ 23 t 0 = nI (nF c t) ∧ aG τ 23 t 1 = nI (nH c t) ∧ aG τ 23 t 2 = nI (nCo c t) ∧ (∀ j, j < nCo c t → aG τ 23 t (3 + j) = nI (nCr c t j)) ∧ ∀ j, j ≤ nCo c t → aG τ 24 t j = nI (nAt c t j)
def Bk (c : Nat → Int32) (L : Nat → Nat → Int) (W : Nat → Nat) (τ : Sg) : Prop :=
  gR τ 25 1 = 14 ∧ (∀ j, j ∈ [0, 1, 2, 3, 4, 5, 6, 7, 9] → gI τ 14 j = nI (W j)) ∧ Pm c W τ ∧ Pl L τ ∧ Pb c (W 4) τ ∧ Pv c (W 5) τ ∧ Ps c (W 6) τ ∧ Pt c (W 9) τ
section
variable {c : Nat → Int32} {L : Nat → Nat → Int} {W : Nat → Nat} {τ υ : Sg} {k : Nat} {l : List (Nat × Nat)} {m : List Nat}
theorem Nms.fr {v : Nat} {f : Nat → Nat} (h : Nms τ v k f) (hf : Fr (fF l) (fA m) τ υ) (ha : fA m v = false) : Nms υ v k f := fun j hj => (hf.aJ v ha j).trans (h j hj)
theorem Pl.fr (h : Pl L τ) (hf : Fr (fF l) (fA m) τ υ) (h1 : fA m 18 = false) (h2 : fA m 19 = false) : Pl L υ := by
  have e1 : aG υ 18 = aG τ 18 := funext fun x => funext fun y => hf.aG 18 h1 x y
  have e2 : aG υ 19 = aG τ 19 := funext fun x => funext fun y => hf.aG 19 h2 x y
  unfold Pl
  rw [e1, e2]
  exact h
theorem Pb.fr (h : Pb c k τ) (hf : Fr (fF l) (fA m) τ υ) (h1 : fA m 20 = false) : Pb c k υ := by
  have e1 : aG υ 20 = aG τ 20 := funext fun x => funext fun y => hf.aG 20 h1 x y
  unfold Pb
  rw [e1]
  exact h
theorem Pv.fr (h : Pv c k τ) (hf : Fr (fF l) (fA m) τ υ) (h1 : fA m 21 = false) : Pv c k υ := by
  have e1 : aG υ 21 = aG τ 21 := funext fun x => funext fun y => hf.aG 21 h1 x y
  unfold Pv
  rw [e1]
  exact h
theorem Ps.fr (h : Ps c k τ) (hf : Fr (fF l) (fA m) τ υ) (h1 : fA m 22 = false) : Ps c k υ := by
  have e1 : aG υ 22 = aG τ 22 := funext fun x => funext fun y => hf.aG 22 h1 x y
  unfold Ps
  rw [e1]
  exact h
theorem Pt.fr (h : Pt c k τ) (hf : Fr (fF l) (fA m) τ υ) (h1 : fA m 23 = false) (h2 : fA m 24 = false) : Pt c k υ := by
  have e1 : aG υ 23 = aG τ 23 := funext fun x => funext fun y => hf.aG 23 h1 x y
  have e2 : aG υ 24 = aG τ 24 := funext fun x => funext fun y => hf.aG 24 h2 x y
  unfold Pt
  rw [e1, e2]
  exact h
theorem Pm.fr (h : Pm c W τ) (hf : Fr (fF l) (fA m) τ υ) (h1 : fA m 15 = false) (h2 : fA m 16 = false) (h3 : fA m 17 = false) : Pm c W υ := ⟨h.1.fr hf h1, h.2.1.fr hf h2, h.2.2.fr hf h3⟩
theorem Bk.r (h : Bk c L W τ) : gR τ 25 1 = 14 := h.1
theorem Bk.n (h : Bk c L W τ) {j : Nat} (hj : j ∈ [0, 1, 2, 3, 4, 5, 6, 7, 9]) : gI τ 14 j = nI (W j) := h.2.1 j hj
theorem Bk.nm (h : Bk c L W τ) : Pm c W τ := h.2.2.1
/-- the reader alone moved -/
theorem Bk.rd (h : Bk c L W τ) (hf : Fr (fF RdC) (fA []) τ υ) : Bk c L W υ := by
  obtain ⟨h0, h1, h2, h3, h4, h5, h6, h7⟩ := h
  refine ⟨(hf.R 25 1 (by decide)).trans h0, fun j hj => (hf.I 14 j ?_).trans (h1 j hj), h2.fr hf rfl rfl rfl, h3.fr hf rfl rfl, h4.fr hf rfl, h5.fr hf rfl, h6.fr hf rfl, h7.fr hf rfl rfl⟩
  exact (show ∀ j ∈ [0, 1, 2, 3, 4, 5, 6, 7, 9], fF RdC 14 j = false by decide) j hj
end
theorem isB14 : isB 14 := Or.inr rfl
abbrev LF : List (Nat × Nat) := RdC ++ [(14, 0), (14, 1), (14, 2), (14, 3), (14, 4), (14, 5), (14, 6), (14, 7), (14, 8), (14, 9)]
abbrev LAs : List Nat := [15, 16, 17, 18, 19, 20, 21, 22, 23, 24]
/-- one line read -/
def Ln (T : Nat → Int32) (n : Nat) (M : List (Nat × Nat)) (c : Nat → Int32) (L : Nat → Nat → Int) (W : Nat → Nat) (τ : Sg) (r : Int32) (υ : Sg) : Prop := r = 1 ∧ RdT T n υ M ∧ Bk c L W υ ∧ Fr (fF LF) (fA LAs) τ υ
/-- the semicolon that ends it, behind a book changed -/
theorem l_end {T : Nat → Int32} {n : Nat} {M : List (Nat × Nat)} {c : Nat → Int32} {L : Nat → Nat → Int} {W W' : Nat → Nat} {τ0 τ : Sg} {Q : Int32 → Sg → Prop} (hR : RdT T n τ ((2, 0) :: M)) (h : Bk c L W τ) (hf : Fr (fF LF) (fA LAs) τ0 τ) (h0 : W' 0 = W 0 + 1) (hw : ∀ j, j ≠ 0 → W' j = W j) (hQ : ∀ υ, Ln T n M c L W' τ0 1 υ → Q 1 υ) : Ok (DX3_takeSemicolon 25 τ) Q := by
  refine (r_semi hR isB14 h.r).mono (fun r υ hu => ?_)
  obtain ⟨rfl, u1, u2, u3⟩ := hu
  have e0 : gI υ 14 0 = nI (W' 0) := by rw [u3, h.n (by decide), h0]; exact nI_add _ _
  obtain ⟨b0, b1, b2, b3, b4, b5, b6, b7⟩ := h
  have u1' : Fr (fF (RdC ++ [(14, 0)])) (fA []) τ υ := u1
  refine hQ υ ⟨rfl, u2, ⟨(u1'.R 25 1 (by decide)).trans b0, fun j hj => ?_, ?_, b3.fr u1' rfl rfl, ?_, ?_, ?_, ?_⟩, hf.trans (u1'.up (by decide) (by decide))⟩
  · by_cases q : j = 0
    · rw [q]; exact e0
    · rw [hw j q, u1'.I 14 j ((show ∀ j ∈ [0, 1, 2, 3, 4, 5, 6, 7, 9], j ≠ 0 → fF (RdC ++ [(14, 0)]) 14 j = false by decide) j hj q)]
      exact b1 j hj
  · unfold Pm
    rw [hw 1 (by decide), hw 2 (by decide), hw 9 (by decide)]
    exact b2.fr u1' rfl rfl rfl
  · rw [hw 4 (by decide)]; exact b4.fr u1' rfl
  · rw [hw 5 (by decide)]; exact b5.fr u1' rfl
  · rw [hw 6 (by decide)]; exact b6.fr u1' rfl
  · rw [hw 9 (by decide)]; exact b7.fr u1' rfl rfl
theorem nmP {p q : Nat} (hp : p < 8) (hq : q < 8) (h : p ≠ q) : plN p ≠ plN q ∧ caN p ≠ caN q ∧ tkN p ≠ tkN q := (nm_ne ⟨p, hp⟩ ⟨q, hq⟩).1 h
theorem nmX' {p q : Nat} (hp : p < 8) (hq : q < 8) : plN p ≠ caN q ∧ plN p ≠ tkN q ∧ caN p ≠ tkN q := (nm_ne ⟨p, hp⟩ ⟨q, hq⟩).2
theorem nmL {p : Nat} (hp : p < 8) : plN p < 9223372036854775808 ∧ caN p < 9223372036854775808 ∧ tkN p < 9223372036854775808 := nm_lt ⟨p, hp⟩
theorem nm_nz : ∀ p : Fin 8, ¬ oJ (plN p.val) = 0 ∧ ¬ oJ (caN p.val) = 0 ∧ ¬ oJ (tkN p.val) = 0 := by decide +kernel
def BW (W : Nat → Nat) : Prop := W 1 ≤ 5 ∧ W 2 ≤ 4 ∧ W 3 ≤ 5 ∧ W 4 ≤ 2 ∧ W 5 ≤ 5 ∧ W 6 ≤ 3 ∧ W 9 ≤ 3
def stV (W : Nat → Nat) (j v : Nat) (x : Nat) : Nat := if x = j then v else W x
def W1 (W : Nat → Nat) (x : Nat) : Nat := if x = 0 then W 0 + 1 else W x

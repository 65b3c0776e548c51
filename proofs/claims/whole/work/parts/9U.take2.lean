/-! two readers take the same -/
theorem pr_pl {α β : Type} {T : Nat → Int32} {n pt q a b k : Nat} {τ μ τ1 μ1 : Sg} {un : Int32} {kc : Int32 → Sg → Option (α × Sg)} {km : Int32 → Sg → Option (β × Sg)} {R : α → Sg → β → Sg → Prop} (P : PR T n τ μ τ1 μ1 pt q a) (hb : isB b) (h25 : gR τ 25 1 = b) (c1 : gI τ b 1 = nI k) (hk : k ≤ 12) (hn : NmT τ μ (b + 1) 63 k)
    (bad : ∀ s τ2 μ2 (f : Int32), f ≠ 0 → FC f q τ2 → FM f q μ2 → Fr (fF RdC) (fA []) τ τ2 → Fr (fF RdM) (fA []) μ μ2 → Ok2 (kc (-1) τ2) (km s μ2) R)
    (ok : ∀ x τ2 μ2, x < k → nI x ≠ un → PR T n τ μ τ2 μ2 q (nxP T n a) (nxA T n (nxP T n a)) → Ok2 (kc (nI x) τ2) (km (nI x) μ2) R) :
    Ok2 (bnd (DX3_takePlace 25 un τ1) kc) (bnd (DX8_told 51 63 (nI k) un μ1) km) R := by
  have hn' : NmT τ1 μ1 (b + 1) 63 k := hn.cg (P.J _) (P.A _)
  refine ok2_l (c_takePl P.1 hb (P.r h25) ((P.b hb 1).trans c1) hk) (fun r1 τ2 k2 => ?_)
  refine ok2_r (m_told (v := 63) (L := 12) P.2.1 P.2.2.2.2 rfl (by decide) (by decide) hk) (fun s1 μ2 j2 => ?_)
  rw [ix_eq hn'] at j2
  rcases pr_tk P k2 j2 with ⟨E, rfl, rfl, P2⟩ | ⟨E, rfl, fx, fy, g1, g2⟩
  · obtain ⟨x, x1, x2, x3⟩ := unE_0 E
    rw [x2]
    exact ok x _ _ x1 x3 P2
  · exact bad s1 τ2 μ2 _ (nE E unE_le) fx fy g1 g2
theorem pr_ca {α β : Type} {T : Nat → Int32} {n pt q a b k : Nat} {τ μ τ1 μ1 : Sg} {un : Int32} {kc : Int32 → Sg → Option (α × Sg)} {km : Int32 → Sg → Option (β × Sg)} {R : α → Sg → β → Sg → Prop} (P : PR T n τ μ τ1 μ1 pt q a) (hb : isB b) (h25 : gR τ 25 1 = b) (c2 : gI τ b 2 = nI k) (hk : k ≤ 6) (hn : NmT τ μ (b + 2) 64 k)
    (bad : ∀ s τ2 μ2 (f : Int32), f ≠ 0 → FC f q τ2 → FM f q μ2 → Fr (fF RdC) (fA []) τ τ2 → Fr (fF RdM) (fA []) μ μ2 → Ok2 (kc (-1) τ2) (km s μ2) R)
    (ok : ∀ x τ2 μ2, x < k → nI x ≠ un → PR T n τ μ τ2 μ2 q (nxP T n a) (nxA T n (nxP T n a)) → Ok2 (kc (nI x) τ2) (km (nI x) μ2) R) :
    Ok2 (bnd (DX3_takeCarrier 25 un τ1) kc) (bnd (DX8_told 51 64 (nI k) un μ1) km) R := by
  have hn' : NmT τ1 μ1 (b + 2) 64 k := hn.cg (P.J _) (P.A _)
  refine ok2_l (c_takeCa P.1 hb (P.r h25) ((P.b hb 2).trans c2) hk) (fun r1 τ2 k2 => ?_)
  refine ok2_r (m_told (v := 64) (L := 6) P.2.1 P.2.2.2.2 rfl (by decide) (by decide) hk) (fun s1 μ2 j2 => ?_)
  rw [ix_eq hn'] at j2
  rcases pr_tk P k2 j2 with ⟨E, rfl, rfl, P2⟩ | ⟨E, rfl, fx, fy, g1, g2⟩
  · obtain ⟨x, x1, x2, x3⟩ := unE_0 E
    rw [x2]
    exact ok x _ _ x1 x3 P2
  · exact bad s1 τ2 μ2 _ (nE E unE_le) fx fy g1 g2
theorem pr_nu {α β : Type} {T : Nat → Int32} {n pt q a : Nat} {τ μ τ1 μ1 : Sg} {lo hi : Int32} {kc : Int32 → Sg → Option (α × Sg)} {km : Int32 → Sg → Option (β × Sg)} {R : α → Sg → β → Sg → Prop} (P : PR T n τ μ τ1 μ1 pt q a) (hh : hi.toInt ≤ 9999999)
    (bad : ∀ s τ2 μ2 (f : Int32), f ≠ 0 → FC f q τ2 → FM f q μ2 → Fr (fF RdC) (fA []) τ τ2 → Fr (fF RdM) (fA []) μ μ2 → Ok2 (kc (-1) τ2) (km s μ2) R)
    (ok : ∀ (N : Nat) τ2 μ2, N < 2147483648 → lo.toInt ≤ (N : Int) → (N : Int) ≤ hi.toInt → PR T n τ μ τ2 μ2 q (nxP T n a) (nxA T n (nxP T n a)) → Ok2 (kc (nI N) τ2) (km (nI N) μ2) R) :
    Ok2 (bnd (DX3_takeNumber 25 lo hi τ1) kc) (bnd (DX8_number 51 lo hi μ1) km) R := by
  refine ok2_l (c_num P.1 hh) (fun r1 τ2 k2 => ?_)
  refine ok2_r (m_num P.2.1 P.2.2.2.2) (fun s1 μ2 j2 => ?_)
  rcases pr_tk P k2 j2 with ⟨E, rfl, rfl, P2⟩ | ⟨E, rfl, fx, fy, g1, g2⟩
  · have x := nm_in E
    have lt := nuM_lt (T := T) (n := n) (p := q)
    rw [nI_toInt lt] at x
    exact ok _ _ _ lt x.2.1 x.2.2 P2
  · exact bad s1 τ2 μ2 _ (nE E nmE_le) fx fy g1 g2
/-- the class takes it, the model has only seen it -/
theorem pr_sp {α β : Type} {T : Nat → Int32} {n pt q a b k : Nat} {τ μ τ1 μ1 : Sg} {un : Int32} {kc : Int32 → Sg → Option (α × Sg)} {km : Int32 → Sg → Option (β × Sg)} {R : α → Sg → β → Sg → Prop} (P : PR T n τ μ τ1 μ1 pt q a) (hb : isB b) (h25 : gR τ 25 1 = b) (c1 : gI τ b 1 = nI k) (hk : k ≤ 12) (hn : NmT τ μ (b + 1) 63 k)
    (bad : ∀ s τ2 μ2 (f : Int32), f ≠ 0 → FC f q τ2 → FM f q μ2 → Fr (fF RdC) (fA []) τ τ2 → Fr (fF RdM) (fA []) μ μ2 → Ok2 (kc (-1) τ2) (km s μ2) R)
    (ok : ∀ x τ2, x < k → nI x ≠ un → Fr (fF RdC) (fA []) τ1 τ2 ∧ CNx T n q a τ2 → Ok2 (kc (nI x) τ2) (km (nI x) μ1) R) :
    Ok2 (bnd (DX3_takePlace 25 un τ1) kc) (bnd (DX8_seen 51 63 (nI k) un μ1) km) R := by
  have hn' : NmT τ1 μ1 (b + 1) 63 k := hn.cg (P.J _) (P.A _)
  refine ok2_l (c_takePl P.1 hb (P.r h25) ((P.b hb 1).trans c1) hk) (fun r1 τ2 k2 => ?_)
  refine ok2_r (m_seen (v := 63) (L := 12) P.2.1 P.2.2.2.2 rfl (by decide) (by decide) hk) (fun s1 μ2 j2 => ?_)
  rw [ix_eq hn'] at j2
  obtain ⟨j1, j3, j4, j5⟩ := j2
  obtain ⟨m1, m2, m3⟩ := k2
  by_cases E : unE (ixC τ1 (b + 1) k T n q) un = 0
  · obtain ⟨m4, m5⟩ := m2 E
    obtain ⟨x, x1, x2, x3⟩ := unE_0 E
    rw [m4, j3, j4 E, x2]
    exact ok x _ x1 x3 ⟨m1, m5⟩
  · obtain ⟨m4, m5⟩ := m3 E
    rw [m4]
    exact bad s1 τ2 μ2 _ (nE E unE_le) m5 (j5 E) (P.2.2.1.trans m1) (P.2.2.2.1.trans j1)
theorem pr_sc {α β : Type} {T : Nat → Int32} {n pt q a b k : Nat} {τ μ τ1 μ1 : Sg} {un : Int32} {kc : Int32 → Sg → Option (α × Sg)} {km : Int32 → Sg → Option (β × Sg)} {R : α → Sg → β → Sg → Prop} (P : PR T n τ μ τ1 μ1 pt q a) (hb : isB b) (h25 : gR τ 25 1 = b) (c1 : gI τ b 2 = nI k) (hk : k ≤ 6) (hn : NmT τ μ (b + 2) 64 k)
    (bad : ∀ s τ2 μ2 (f : Int32), f ≠ 0 → FC f q τ2 → FM f q μ2 → Fr (fF RdC) (fA []) τ τ2 → Fr (fF RdM) (fA []) μ μ2 → Ok2 (kc (-1) τ2) (km s μ2) R)
    (ok : ∀ x τ2, x < k → nI x ≠ un → Fr (fF RdC) (fA []) τ1 τ2 ∧ CNx T n q a τ2 → Ok2 (kc (nI x) τ2) (km (nI x) μ1) R) :
    Ok2 (bnd (DX3_takeCarrier 25 un τ1) kc) (bnd (DX8_seen 51 64 (nI k) un μ1) km) R := by
  have hn' : NmT τ1 μ1 (b + 2) 64 k := hn.cg (P.J _) (P.A _)
  refine ok2_l (c_takeCa P.1 hb (P.r h25) ((P.b hb 2).trans c1) hk) (fun r1 τ2 k2 => ?_)
  refine ok2_r (m_seen (v := 64) (L := 6) P.2.1 P.2.2.2.2 rfl (by decide) (by decide) hk) (fun s1 μ2 j2 => ?_)
  rw [ix_eq hn'] at j2
  obtain ⟨j1, j3, j4, j5⟩ := j2
  obtain ⟨m1, m2, m3⟩ := k2
  by_cases E : unE (ixC τ1 (b + 2) k T n q) un = 0
  · obtain ⟨m4, m5⟩ := m2 E
    obtain ⟨x, x1, x2, x3⟩ := unE_0 E
    rw [m4, j3, j4 E, x2]
    exact ok x _ x1 x3 ⟨m1, m5⟩
  · obtain ⟨m4, m5⟩ := m3 E
    rw [m4]
    exact bad s1 τ2 μ2 _ (nE E unE_le) m5 (j5 E) (P.2.2.1.trans m1) (P.2.2.2.1.trans j1)
/-- the bad end of a line -/
theorem ln_end {T : Nat → Int32} {n b p : Nat} {τ μ τ2 μ2 : Sg} {f : Int32} {q : Nat} (hM : Fin0 μ2) (hf : f ≠ 0) (x : FC f q τ2) (y : FM f q μ2) (c : Fr (fF (LC b)) (fA (LA b)) τ τ2) (m : Fr (fF LM) (fA LMA) μ μ2) :
    Ok2 (some (0, τ2)) (DX8_readLine_125 51 μ2) (fun r υ _ ω => LnR T n b τ μ p r υ ω) := by
  have h : ¬ gI μ2 51 29 = 0 := by rw [y.1]; exact hf
  rw [f_125 hM h]
  exact ok2_ss (ln_bad c (m.pI 51 11 _ (by decide)) hf x y.l)
/-! a leg more: the ways -/
def lgF (D : Nat → Nat → Int) (a b : Nat) (m : Int) (x y : Nat) : Int := min (D x y) (min (D x a + m + D b y) (D x b + m + D a y))
theorem clo_leg {L L' D : Nat → Nat → Int} {a b : Nat} {m : Int} (h : Clo L D) (ha : a < 12) (hb : b < 12) (hm : 1 ≤ m) (hnn : ∀ x y, x < 12 → y < 12 → 0 ≤ D x y) (e1 : L' a b = m) (e2 : L' b a = m)
    (e3 : ∀ x y, ¬ (x = a ∧ y = b) → ¬ (x = b ∧ y = a) → L' x y = L x y) (e4 : ∀ x y, x < 12 → y < 12 → L' x y ≤ L x y) : Clo L' (lgF D a b m) := by
  obtain ⟨⟨q1, q2, q3⟩, g⟩ := h
  have za := q1 a ha
  have zb := q1 b hb
  refine ⟨⟨fun x hx => ?_, fun x y hx hy hxy => ?_, fun x y z hx hy hz => ?_⟩, fun M hM x y hx hy => ?_⟩
  · have t0 := q1 x hx
    have t1 := hnn x a hx ha
    have t2 := hnn x b hx hb
    have t3 := hnn a x ha hx
    have t4 := hnn b x hb hx
    unfold lgF
    omega
  · unfold lgF
    by_cases c1 : x = a ∧ y = b
    · obtain ⟨rfl, rfl⟩ := c1
      rw [e1]
      omega
    · by_cases c2 : x = b ∧ y = a
      · obtain ⟨rfl, rfl⟩ := c2
        rw [e2]
        omega
      · rw [e3 x y c1 c2]
        have := q2 x y hx hy hxy
        omega
  · have t1 := q3 x y z hx hy hz
    have t2 := q3 x y a hx hy ha
    have t3 := q3 x y b hx hy hb
    have t4 := q3 a y z ha hy hz
    have t5 := q3 b y z hb hy hz
    have t6 := q3 x a z hx ha hz
    have t7 := q3 x b z hx hb hz
    have n1 := hnn b y hb hy
    have n2 := hnn y a hy ha
    have n3 := hnn a y ha hy
    have n4 := hnn y b hy hb
    unfold lgF
    omega
  · obtain ⟨r1, r2, r3⟩ := hM
    have hQ : QM L M := ⟨r1, fun x y hx hy hxy => Int.le_trans (r2 x y hx hy hxy) (e4 x y hx hy), r3⟩
    have G := g M hQ
    have t0 := G x y hx hy
    have t1 := G x a hx ha
    have t2 := G x b hx hb
    have t3 := G a y ha hy
    have t4 := G b y hb hy
    have s1 := r3 x a y hx ha hy
    have s2 := r3 x b y hx hb hy
    have s3 := r3 a b y ha hb hy
    have s4 := r3 b a y hb ha hy
    by_cases hab : a = b
    · subst hab
      unfold lgF
      omega
    · have u1 := r2 a b ha hb hab
      have u2 := r2 b a hb ha (Ne.symm hab)
      rw [e1] at u1
      rw [e2] at u2
      unfold lgF
      omega
theorem lg_in {L' D Dt : Nat → Nat → Int} {a b i j : Nat} {m : Int} (hQ : QM L' (lgF D a b m)) (ha : a < 12) (hb : b < 12) (hab : a ≠ b) (e1 : L' a b = m) (e2 : L' b a = m) (hi : i < 12) (hj : j < 12)
    (h : ∀ x y, x < 12 → y < 12 → lgF D a b m x y ≤ Dt x y ∧ Dt x y ≤ D x y) : lgF Dt a b m i j = lgF D a b m i j := by
  obtain ⟨r1, r2, r3⟩ := hQ
  have u1 := r2 a b ha hb hab
  have u2 := r2 b a hb ha (Ne.symm hab)
  rw [e1] at u1
  rw [e2] at u2
  have s1 := r3 i a j hi ha hj
  have s2 := r3 i b j hi hb hj
  have s3 := r3 a b j ha hb hj
  have s4 := r3 b a j hb ha hj
  have h0 := h i j hi hj
  have h1 := h i a hi ha
  have h2 := h b j hb hj
  have h3 := h i b hi hb
  have h4 := h a j ha hj
  have e : lgF D a b m i j = min (D i j) (min (D i a + m + D b j) (D i b + m + D a j)) := rfl
  have e' : lgF Dt a b m i j = min (Dt i j) (min (Dt i a + m + Dt b j) (Dt i b + m + Dt a j)) := rfl
  omega
theorem clo_far {L D : Nat → Nat → Int} {x : Nat} (h : Clo L D) (hx : x < 12) (hL : ∀ u v, u < 12 → v < 12 → u ≠ v → 0 ≤ L u v) (h1 : ∀ y, y < 12 → y ≠ x → L x y = 1000000 ∧ L y x = 1000000) : ∀ y, y < 12 → y ≠ x → 1000000 ≤ D x y ∧ 1000000 ≤ D y x := by
  have hQ : QM L (fun u v => if u ≠ v ∧ (u = x ∨ v = x) then 1000000 else 0) := by
    refine ⟨fun u hu => if_neg (fun z => z.1 rfl), fun u v hu hv huv => ?_, fun u v w hu hv hw => ?_⟩
    · show (if u ≠ v ∧ (u = x ∨ v = x) then (1000000 : Int) else 0) ≤ L u v
      split
      · rename_i c
        rcases c.2 with rfl | rfl
        · have := (h1 v hv (Ne.symm huv)).1
          omega
        · have := (h1 u hu huv).2
          omega
      · exact hL u v hu hv huv
    · show (if u ≠ w ∧ (u = x ∨ w = x) then (1000000 : Int) else 0) ≤ (if u ≠ v ∧ (u = x ∨ v = x) then 1000000 else 0) + (if v ≠ w ∧ (v = x ∨ w = x) then 1000000 else 0)
      by_cases c : u ≠ w ∧ (u = x ∨ w = x)
      · rw [if_pos c]
        by_cases c1 : u ≠ v ∧ (u = x ∨ v = x)
        · rw [if_pos c1]; split <;> omega
        · have c2 : v ≠ w ∧ (v = x ∨ w = x) := by omega
          rw [if_pos c2]; split <;> omega
      · rw [if_neg c]
        split <;> split <;> omega
  intro y hy hyx
  have a := h.2 _ hQ x y hx hy
  have b := h.2 _ hQ y x hy hx
  have a' : (if x ≠ y ∧ (x = x ∨ y = x) then (1000000 : Int) else 0) ≤ D x y := a
  have b' : (if y ≠ x ∧ (y = x ∨ x = x) then (1000000 : Int) else 0) ≤ D y x := b
  rw [if_pos ⟨Ne.symm hyx, Or.inl rfl⟩] at a'
  rw [if_pos ⟨hyx, Or.inr rfl⟩] at b'
  exact ⟨a', b'⟩
theorem clo_cg {L L' D D' : Nat → Nat → Int} (h : Clo L D) (e : ∀ x y, x < 12 → y < 12 → L' x y = L x y) (f : ∀ x y, x < 12 → y < 12 → D' x y = D x y) : Clo L' D' := by
  obtain ⟨⟨q1, q2, q3⟩, g⟩ := h
  refine ⟨⟨fun x hx => ?_, fun x y hx hy hxy => ?_, fun x y z hx hy hz => ?_⟩, fun M hM x y hx hy => ?_⟩
  · rw [f x x hx hx]; exact q1 x hx
  · rw [f x y hx hy, e x y hx hy]; exact q2 x y hx hy hxy
  · rw [f x y hx hy, f x z hx hz, f y z hy hz]; exact q3 x y z hx hy hz
  · rw [f x y hx hy]
    exact g M ⟨hM.1, fun x y hx hy hxy => by have := hM.2.1 x y hx hy hxy; rw [e x y hx hy] at this; exact this, hM.2.2⟩ x y hx hy
/-! legs: one more row -/
theorem lgR_sn {leg : Nat → Int32} {x y : Int32} : ∀ (d i : Nat), (∀ k, i ≤ k → k < i + d → leg (3 * k + 2) ≠ 1000000) → lgR leg x y (d + 1) i = if lgR leg x y d i = 1000000 then (if isP (leg (3 * (i + d))) (leg (3 * (i + d) + 1)) x y then leg (3 * (i + d) + 2) else 1000000) else lgR leg x y d i
  | 0, i, _ => by
    unfold lgR
    rw [if_pos rfl]
    rfl
  | d + 1, i, h => by
    have ih := lgR_sn (leg := leg) (x := x) (y := y) d (i + 1) (fun k a b => h k (by omega) (by omega))
    rw [show i + 1 + d = i + (d + 1) by omega] at ih
    rw [show lgR leg x y (d + 1 + 1) i = if isP (leg (3 * i)) (leg (3 * i + 1)) x y then leg (3 * i + 2) else lgR leg x y (d + 1) (i + 1) from rfl, show lgR leg x y (d + 1) i = if isP (leg (3 * i)) (leg (3 * i + 1)) x y then leg (3 * i + 2) else lgR leg x y d (i + 1) from rfl, ih]
    by_cases c : isP (leg (3 * i)) (leg (3 * i + 1)) x y = true
    · rw [if_pos c, if_pos c, if_neg (h i (Nat.le_refl _) (by omega))]
    · rw [if_neg c, if_neg c]
theorem lgR_cg {leg leg' : Nat → Int32} {x y : Int32} : ∀ (d i : Nat), (∀ k, i ≤ k → k < i + d → leg' (3 * k) = leg (3 * k) ∧ leg' (3 * k + 1) = leg (3 * k + 1) ∧ leg' (3 * k + 2) = leg (3 * k + 2)) → lgR leg' x y d i = lgR leg x y d i
  | 0, i, _ => rfl
  | d + 1, i, h => by
    unfold lgR
    obtain ⟨a, b, c⟩ := h i (Nat.le_refl _) (by omega)
    rw [a, b, c, lgR_cg d (i + 1) (fun k a b => h k (by omega) (by omega))]
theorem isP_sw (a b c d : Int32) : isP a b c d = isP a b d c := by
  unfold isP
  exact Bool.or_comm _ _
theorem lgR_sw {leg : Nat → Int32} {x y : Int32} : ∀ (d i : Nat), lgR leg x y d i = lgR leg y x d i
  | 0, i => rfl
  | d + 1, i => by
    unfold lgR
    rw [isP_sw, lgR_sw d (i + 1)]

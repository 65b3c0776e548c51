/-! TOKENS of a text as a list -/
def Tok (T : Nat → Int32) (n : Nat) : Nat → List (Nat × Nat) → Prop
  | p, [] => n ≤ p
  | p, x :: L => p < n ∧ tkF T n p = x.1 ∧ (x.1 = 3 → nuM T (n - p) p 0 = x.2) ∧ (x.1 = 4 → nmX T n p = oJ x.2) ∧ Tok T n (nxP T n (nxA T n p)) L
def RdT (T : Nat → Int32) (n : Nat) (τ : Sg) (L : List (Nat × Nat)) : Prop := ∃ pt p a, CS T n τ pt p a ∧ Tok T n p L
section
variable {T : Nat → Int32} {n : Nat} {τ : Sg} {L : List (Nat × Nat)} {x : Nat × Nat} {b : Nat}
theorem CS.a {pt p a : Nat} (h : CS T n τ pt p a) : a = nxA T n p := h.2.2.2.2.2.2.2.2.2.1
theorem RdT.fin (h : RdT T n τ L) : Fin0 τ := by obtain ⟨pt, p, a, h1, h2⟩ := h; exact h1.1
theorem RdT.tk (h : RdT T n τ (x :: L)) : gR τ 25 4 = 1000 + x.1 := by
  obtain ⟨pt, p, a, h1, h2⟩ := h
  rw [h1.tk, h2.2.1]
theorem RdT.t0 (h : RdT T n τ []) : gR τ 25 4 = 1000 := by
  obtain ⟨pt, p, a, h1, h2⟩ := h
  rw [h1.tk]
  unfold tkF
  rw [if_pos (show n ≤ p from h2)]
theorem RdT.fr {υ : Sg} {l : List (Nat × Nat)} {m : List Nat} (h : RdT T n τ L) (hf : Fr (fF l) (fA m) τ υ) (h1 : ([(25, 2), (25, 3), (25, 4), (25, 5), (25, 6), (25, 7), (25, 8), (25, 9), (25, 10)].all fun q => !(fF l q.1 q.2)) = true) (h2 : (frL.all fun q => !(fF l q.1 q.2.1)) = true) (h3 : fA m 2 = false) : RdT T n υ L := by
  obtain ⟨pt, p, a, k1, k2⟩ := h
  exact ⟨pt, p, a, k1.fr hf h1 h2 h3, k2⟩
theorem cnx {p a : Nat} {υ : Sg} (ha : a = nxA T n p) (h : CNx T n p a υ) (hT : Tok T n (nxP T n (nxA T n p)) L) : RdT T n υ L := ⟨_, _, _, h, by rw [ha]; exact hT⟩
theorem r_st (h : RdT T n τ (x :: L)) : Ok (DX3_step 25 τ) (fun _ υ => Fr (fF RdC) (fA []) τ υ ∧ RdT T n υ L) := by
  obtain ⟨pt, p, a, h1, h2⟩ := h
  exact (c_st h1).mono (fun _ υ hu => ⟨hu.1, cnx h1.a hu.2 h2.2.2.2.2⟩)
theorem r_num {v lo hi : Nat} (h : RdT T n τ ((3, v) :: L)) (h1 : lo ≤ v) (h2 : v ≤ hi) (h3 : hi ≤ 9999999) : Ok (DX3_takeNumber 25 (nI lo) (nI hi) τ) (fun r υ => r = nI v ∧ Fr (fF RdC) (fA []) τ υ ∧ RdT T n υ L) := by
  obtain ⟨pt, p, a, k1, k2⟩ := h
  have hv : nuM T (n - p) p 0 = v := k2.2.2.1 rfl
  have e0 : nmE T n p (nI lo) (nI hi) = 0 := by
    unfold nmE
    rw [if_pos k2.2.1, if_neg ?_]
    rw [hv]
    intro z
    rcases z with z | z
    · have := (lt_nI (by omega) (by omega)).mp z; omega
    · have := (lt_nI (by omega) (by omega)).mp z; omega
  refine (c_num k1 (by rw [nI_i (by omega)]; omega)).mono (fun r υ hu => ?_)
  obtain ⟨u1, u2, -⟩ := hu
  obtain ⟨u3, u4⟩ := u2 e0
  exact ⟨by rw [u3, hv], u1, cnx k1.a u4 k2.2.2.2.2⟩
theorem fiR_at {p : Nat → Bool} {j : Nat} (hj : p j = true) (hl : ∀ i, i < j → p i = false) : ∀ (d i : Nat), i ≤ j → j < i + d → fiR p d i = nI j
  | 0, i, h1, h2 => by omega
  | d + 1, i, h1, h2 => by
    unfold fiR
    by_cases q : i = j
    · rw [q, hj]
      rfl
    · rw [hl i (by omega)]
      exact fiR_at hj hl d (i + 1) (by omega) (by omega)
theorem fiR_no {p : Nat → Bool} : ∀ (d i : Nat), (∀ j, i ≤ j → j < i + d → p j = false) → fiR p d i = -1
  | 0, _, _ => rfl
  | d + 1, i, h => by
    unfold fiR
    rw [h i (by omega) (by omega)]
    exact fiR_no d (i + 1) (fun j a b => h j (by omega) (by omega))
/-- names that stand -/
def Nms (τ : Sg) (v k : Nat) (f : Nat → Nat) : Prop := ∀ j, j < k → aJ τ v j = oJ (f j)
theorem ix_at {f : Nat → Nat} {p v k q w : Nat} (hN : Nms τ v k f) (hq : q < k) (hk4 : tkF T n p = 4) (hw : nmX T n p = oJ w) (hf : f q = w) (hi : ∀ j, j < q → f j ≠ w) (hb : ∀ j, j ≤ q → f j < 9223372036854775808) (hwb : w < 9223372036854775808) : ixC τ v k T n p = nI q := by
  unfold ixC
  rw [if_pos hk4]
  refine fiR_at ?_ (fun j hj => ?_) k 0 (Nat.zero_le _) (by omega)
  · rw [hN q hq, hw, hf]
    exact decide_eq_true rfl
  · rw [hN j (by omega), hw]
    refine decide_eq_false (fun z => hi j hj ?_)
    rw [oJ_eq (hb j (by omega)) hwb] at z
    exact z
theorem ix_no {f : Nat → Nat} {p v k w : Nat} (hN : Nms τ v k f) (hk4 : tkF T n p = 4) (hw : nmX T n p = oJ w) (hi : ∀ j, j < k → f j ≠ w) (hb : ∀ j, j < k → f j < 9223372036854775808) (hwb : w < 9223372036854775808) : ixC τ v k T n p = -1 := by
  unfold ixC
  rw [if_pos hk4]
  refine fiR_no k 0 (fun j _ hj => ?_)
  rw [hN j (by omega), hw]
  refine decide_eq_false (fun z => hi j (by omega) ?_)
  rw [oJ_eq (hb j (by omega)) hwb] at z
  exact z
theorem r_pl {k q w : Nat} {f : Nat → Nat} {un : Int32} (h : RdT T n τ ((4, w) :: L)) (hb : isB b) (h25 : gR τ 25 1 = b) (h1 : gI τ b 1 = nI k) (hk : k ≤ 12) (hN : Nms τ (b + 1) k f) (hq : q < k) (hf : f q = w) (hi : ∀ j, j < q → f j ≠ w) (hfb : ∀ j, j ≤ q → f j < 9223372036854775808) (hun : nI q ≠ un) :
    Ok (DX3_takePlace 25 un τ) (fun r υ => r = nI q ∧ Fr (fF RdC) (fA []) τ υ ∧ RdT T n υ L) := by
  obtain ⟨pt, p, a, k1, k2⟩ := h
  have ei : ixC τ (b + 1) k T n p = nI q := ix_at hN hq k2.2.1 (k2.2.2.2.1 rfl) hf hi hfb (by rw [← hf]; exact hfb q (Nat.le_refl _))
  have e0 : unE (ixC τ (b + 1) k T n p) un = 0 := by
    unfold unE
    rw [ei, if_neg (fun z => by rcases z with z | z; exact nI_neg (by omega) z; exact hun z)]
  refine (c_takePl k1 hb h25 h1 hk).mono (fun r υ hu => ?_)
  obtain ⟨u1, u2, -⟩ := hu
  obtain ⟨u3, u4⟩ := u2 e0
  exact ⟨by rw [u3, ei], u1, cnx k1.a u4 k2.2.2.2.2⟩
theorem r_ca {k q w : Nat} {f : Nat → Nat} {un : Int32} (h : RdT T n τ ((4, w) :: L)) (hb : isB b) (h25 : gR τ 25 1 = b) (h1 : gI τ b 2 = nI k) (hk : k ≤ 6) (hN : Nms τ (b + 2) k f) (hq : q < k) (hf : f q = w) (hi : ∀ j, j < q → f j ≠ w) (hfb : ∀ j, j ≤ q → f j < 9223372036854775808) (hun : nI q ≠ un) :
    Ok (DX3_takeCarrier 25 un τ) (fun r υ => r = nI q ∧ Fr (fF RdC) (fA []) τ υ ∧ RdT T n υ L) := by
  obtain ⟨pt, p, a, k1, k2⟩ := h
  have ei : ixC τ (b + 2) k T n p = nI q := ix_at hN hq k2.2.1 (k2.2.2.2.1 rfl) hf hi hfb (by rw [← hf]; exact hfb q (Nat.le_refl _))
  have e0 : unE (ixC τ (b + 2) k T n p) un = 0 := by
    unfold unE
    rw [ei, if_neg (fun z => by rcases z with z | z; exact nI_neg (by omega) z; exact hun z)]
  refine (c_takeCa k1 hb h25 h1 hk).mono (fun r υ hu => ?_)
  obtain ⟨u1, u2, -⟩ := hu
  obtain ⟨u3, u4⟩ := u2 e0
  exact ⟨by rw [u3, ei], u1, cnx k1.a u4 k2.2.2.2.2⟩
theorem r_new {k1 k2 k9 w : Nat} {f g e : Nat → Nat} (h : RdT T n τ ((4, w) :: L)) (hb : isB b) (h25 : gR τ 25 1 = b) (h1 : gI τ b 1 = nI k1) (h2 : gI τ b 2 = nI k2) (h9 : gI τ b 9 = nI k9) (l1 : k1 ≤ 12) (l2 : k2 ≤ 6) (l9 : k9 ≤ 8)
    (n1 : Nms τ (b + 1) k1 f) (n2 : Nms τ (b + 2) k2 g) (n3 : Nms τ (b + 3) k9 e) (hf : ∀ j, j < k1 → f j ≠ w ∧ f j < 9223372036854775808) (hg : ∀ j, j < k2 → g j ≠ w ∧ g j < 9223372036854775808) (he : ∀ j, j < k9 → e j ≠ w ∧ e j < 9223372036854775808) (hwb : w < 9223372036854775808) :
    Ok (DX3_takeNewName 25 τ) (fun r υ => r = oJ w ∧ Fr (fF RdC) (fA []) τ υ ∧ RdT T n υ L) := by
  obtain ⟨pt, p, a, c1, c2⟩ := h
  have hw : nmX T n p = oJ w := c2.2.2.2.1 rfl
  have i1 := ix_no n1 c2.2.1 hw (fun j hj => (hf j hj).1) (fun j hj => (hf j hj).2) hwb
  have i2 := ix_no n2 c2.2.1 hw (fun j hj => (hg j hj).1) (fun j hj => (hg j hj).2) hwb
  have i3 := ix_no n3 c2.2.1 hw (fun j hj => (he j hj).1) (fun j hj => (he j hj).2) hwb
  have e0 : nnE τ b k1 k2 k9 T n p = 0 := by
    unfold nnE
    rw [if_pos c2.2.1, if_neg ?_]
    intro z
    rcases z with z | z | z
    · exact z i1
    · exact z i2
    · exact z i3
  refine (c_newNm c1 hb h25 h1 h2 h9 l1 l2 l9).mono (fun r υ hu => ?_)
  obtain ⟨u1, u2, -⟩ := hu
  obtain ⟨u3, u4⟩ := u2 e0
  exact ⟨by rw [u3, hw], u1, cnx c1.a u4 c2.2.2.2.2⟩
theorem r_semi (h : RdT T n τ ((2, 0) :: L)) (hb : isB b) (h25 : gR τ 25 1 = b) : Ok (DX3_takeSemicolon 25 τ) (fun r υ => r = 1 ∧ Fr (fF (RdC ++ [(b, 0)])) (fA []) τ υ ∧ RdT T n υ L ∧ gI υ b 0 = gI τ b 0 + 1) := by
  obtain ⟨pt, p, a, k1, k2⟩ := h
  refine (c_semi k1 hb h25).mono (fun r υ hu => ?_)
  obtain ⟨u1, u2, -⟩ := hu
  obtain ⟨u3, u4, u5⟩ := u2 k2.2.1
  exact ⟨u3, u1, cnx k1.a u4 k2.2.2.2.2, u5⟩
theorem r_kind {k : Nat} (h : RdT T n τ ((k, 0) :: L)) (h1 : 11 ≤ k) (h2 : k ≤ 14) : Ok (DX3_takeKind 25 τ) (fun r υ => r = nI (k - 10) ∧ Fr (fF RdC) (fA []) τ υ ∧ RdT T n υ L) := by
  obtain ⟨pt, p, a, k1, k2⟩ := h
  have ek : tkF T n p = k := k2.2.1
  refine (c_kind k1).mono (fun r υ hu => ?_)
  obtain ⟨u1, u2, -⟩ := hu
  obtain ⟨u3, u4⟩ := u2 (by unfold kdE; rw [ek, if_pos ⟨h1, h2⟩])
  exact ⟨by rw [u3, ek], u1, cnx k1.a u4 k2.2.2.2.2⟩
theorem r_how {k : Nat} (h : RdT T n τ ((k, 0) :: L)) (h1 : k = 19 ∨ k = 16) : Ok (DX3_takeHow 25 τ) (fun r υ => r = (if k = 19 then 0 else 1) ∧ Fr (fF RdC) (fA []) τ υ ∧ RdT T n υ L) := by
  obtain ⟨pt, p, a, k1, k2⟩ := h
  have ek : tkF T n p = k := k2.2.1
  refine (c_how k1).mono (fun r υ hu => ?_)
  obtain ⟨u1, u2, -⟩ := hu
  obtain ⟨u3, u4⟩ := u2 (by unfold hwE; rw [ek, if_pos h1])
  exact ⟨by rw [u3, ek], u1, cnx k1.a u4 k2.2.2.2.2⟩
end
/-! letters and tokens: an item is (a blank ahead?, which token, its value, its letters) -/
abbrev Itm : Type := Bool × Nat × Nat × List Nat
def rdI (x : Itm) : List Nat := (if x.1 then [32] else []) ++ x.2.2.2
def rdL : List Itm → List Nat
  | [] => []
  | x :: L => rdI x ++ rdL L
def tkI (x : Itm) : Nat × Nat := (x.2.1, x.2.2.1)
def cod (w : List Nat) : Nat := cdB 27 (fun j => w.getD j 0 - 96) w.length
def nuL : List Nat → Nat → Nat
  | [], v => v
  | c :: w, v => nuL w (if v ≤ 9999999 then 10 * v + (c - 48) else v)
def Gd (x : Itm) : Prop :=
  (x.2.1 = 2 ∧ x.2.2.2 = [59]) ∨
  (x.2.1 = 3 ∧ 1 ≤ x.2.2.2.length ∧ (∀ j, j < x.2.2.2.length → 48 ≤ x.2.2.2.getD j 0 ∧ x.2.2.2.getD j 0 ≤ 57) ∧ nuL x.2.2.2 0 = x.2.2.1) ∨
  (4 ≤ x.2.1 ∧ 1 ≤ x.2.2.2.length ∧ (∀ j, j < x.2.2.2.length → 97 ≤ x.2.2.2.getD j 0 ∧ x.2.2.2.getD j 0 ≤ 122) ∧ wtk (cod x.2.2.2) x.2.2.2.length = x.2.1 ∧ (x.2.1 = 4 → cod x.2.2.2 = x.2.2.1))
/-- a word or a number is followed by a blank or by a semicolon -/
def Ch : List Itm → Prop
  | [] => True
  | x :: L => Gd x ∧ (x.2.1 ≠ 2 → ∃ y M, L = y :: M ∧ (y.1 = true ∨ y.2.2.2 = [59])) ∧ Ch L
theorem rn_w {p : Int32 → Bool} {T : Nat → Int32} : ∀ (m d i : Nat), (∀ j, j < m → p (T (i + j)) = true) → m ≤ d → (m < d → p (T (i + m)) = false) → rn p T d i = i + m
  | 0, 0, i, _, _, _ => rfl
  | 0, d + 1, i, _, _, h => by
    unfold rn
    have := h (by omega)
    rw [Nat.add_zero] at this
    rw [this]
    rfl
  | m + 1, 0, i, _, h, _ => by omega
  | m + 1, d + 1, i, h1, h2, h3 => by
    unfold rn
    have h0 := h1 0 (by omega)
    rw [Nat.add_zero] at h0
    rw [if_pos h0, rn_w m d (i + 1) (fun j hj => by rw [show i + 1 + j = i + (j + 1) by omega]; exact h1 (j + 1) (by omega)) (by omega) (fun hm => by rw [show i + 1 + m = i + (m + 1) by omega]; exact h3 (by omega))]
    omega
theorem nu_w {T : Nat → Int32} : ∀ (w : List Nat) (d i v : Nat), (∀ j, j < w.length → T (i + j) = nI (w.getD j 0) ∧ 48 ≤ w.getD j 0 ∧ w.getD j 0 ≤ 57) → w.length ≤ d → (w.length < d → dgB (T (i + w.length)) = false) → nuM T d i v = nuL w v
  | [], 0, i, v, _, _, _ => rfl
  | [], d + 1, i, v, _, _, h => by
    unfold nuM
    have := h (Nat.succ_pos _)
    rw [show i + ([] : List Nat).length = i from rfl] at this
    rw [this]
    rfl
  | c :: w, 0, i, v, _, h, _ => absurd h (by rw [List.length_cons]; omega)
  | c :: w, d + 1, i, v, h1, h2, h3 => by
    rw [List.length_cons] at h2
    obtain ⟨e0, b1, b2⟩ := h1 0 (by rw [List.length_cons]; omega)
    rw [Nat.add_zero, show (c :: w).getD 0 0 = c from rfl] at e0
    rw [show (c :: w).getD 0 0 = c from rfl] at b1 b2
    have hd : dgB (T i) = true := by
      rw [e0]
      have := (show ∀ k : Fin 10, dgB (nI (48 + k.val)) = true by decide) ⟨c - 48, by omega⟩
      simp only at this
      rwa [show 48 + (c - 48) = c by omega] at this
    unfold nuM
    rw [if_pos hd, e0, nI_clamp (by omega)]
    exact nu_w w d (i + 1) _ (fun j hj => by
      have := h1 (j + 1) (by rw [List.length_cons]; omega)
      rw [show i + (j + 1) = i + 1 + j by omega, show (c :: w).getD (j + 1) 0 = w.getD j 0 from rfl] at this
      exact this) (by omega) (fun hl => by
      have := h3 (by rw [List.length_cons]; omega)
      rw [List.length_cons, show i + (w.length + 1) = i + 1 + w.length by omega] at this
      exact this)
theorem sm_y {c : Nat} (h1 : 97 ≤ c) (h2 : c ≤ 122) : smB (nI c) = true := by
  have := (show ∀ k : Fin 26, smB (nI (97 + k.val)) = true by decide) ⟨c - 97, by omega⟩
  simp only at this
  rwa [show 97 + (c - 97) = c by omega] at this
theorem dg_y {c : Nat} (h1 : 48 ≤ c) (h2 : c ≤ 57) : dgB (nI c) = true := by
  have := (show ∀ k : Fin 10, dgB (nI (48 + k.val)) = true by decide) ⟨c - 48, by omega⟩
  simp only at this
  rwa [show 48 + (c - 48) = c by omega] at this
theorem sm_n {c : Nat} (h1 : c < 97) : smB (nI c) = false := by
  have := (show ∀ k : Fin 97, smB (nI k.val) = false by decide) ⟨c, h1⟩
  exact this
theorem sp_n : ∀ c : Fin 128, 33 ≤ c.val → spB (nI c.val) = false := by decide
theorem tok_rd {T : Nat → Int32} {n : Nat} : ∀ (L : List Itm) (pre : List Nat), n = (pre ++ rdL L).length → (∀ i, i < n → T i = nI ((pre ++ rdL L).getD i 0)) → Ch L → Tok T n (nxP T n pre.length) (L.map tkI)
  | [], pre, hn, hT, hC => by
    have : n = pre.length := by rw [hn]; simp [rdL]
    show n ≤ nxP T n pre.length
    exact Nat.le_trans (by omega) (nxP_le (T := T) (n := n) (i := pre.length) (by omega)).1
  | x :: L, pre, hn, hT, hC => by
    obtain ⟨g, nx, hC2⟩ := hC
    have hl1 : 1 ≤ x.2.2.2.length := by
      rcases g with ⟨-, g⟩ | ⟨-, g, -⟩ | ⟨-, g, -⟩
      · rw [g]; decide
      · exact g
      · exact g
    obtain ⟨s, hs⟩ : ∃ s, (if x.1 then [32] else [] : List Nat).length = s := ⟨_, rfl⟩
    have hs1 : s ≤ 1 := by rw [← hs]; split <;> simp
    have hn2 : n = pre.length + s + x.2.2.2.length + (rdL L).length := by
      rw [hn, show rdL (x :: L) = rdI x ++ rdL L from rfl]
      unfold rdI
      simp only [List.length_append, hs]
      omega
    have hT2 : ∀ i, i < n → T i = nI (((pre ++ rdI x) ++ rdL L).getD i 0) := fun i hi => by
      rw [List.append_assoc]
      exact hT i hi
    have hpl : (pre ++ rdI x).length = pre.length + s + x.2.2.2.length := by
      unfold rdI
      simp only [List.length_append, hs]
      omega
    have hw : ∀ j, j < x.2.2.2.length → T (pre.length + s + j) = nI (x.2.2.2.getD j 0) := fun j hj => by
      rw [hT2 _ (by omega), getD_app, if_pos (by omega), getD_app, if_neg (by omega), show pre.length + s + j - pre.length = s + j by omega]
      unfold rdI
      rw [getD_app, hs, if_neg (by omega), show s + j - s = j by omega]
    -- what stands behind it
    have hb : x.2.1 ≠ 2 → (rdL L).length ≥ 1 ∧ (T (pre.length + s + x.2.2.2.length) = nI 32 ∨ T (pre.length + s + x.2.2.2.length) = nI 59) := fun h2 => by
      obtain ⟨y, M, rfl, hy⟩ := nx h2
      have e : rdL (y :: M) = rdI y ++ rdL M := rfl
      have e2 : ∃ w, rdI y ++ rdL M = 32 :: w ∨ rdI y ++ rdL M = 59 :: w := by
        unfold rdI
        rcases hy with hy | hy
        · rw [if_pos hy]
          exact ⟨_, Or.inl rfl⟩
        · rw [hy]
          cases y.1 with
          | true => exact ⟨_, Or.inl rfl⟩
          | false => exact ⟨_, Or.inr rfl⟩
      obtain ⟨w, hw2⟩ := e2
      have hlen : 1 ≤ (rdL (y :: M)).length := by
        rw [e]
        rcases hw2 with z | z <;> rw [z] <;> simp
      refine ⟨hlen, ?_⟩
      rw [hT2 _ (by omega), getD_app, if_neg (by omega), hpl, Nat.sub_self, e]
      rcases hw2 with z | z <;> rw [z]
      · exact Or.inl rfl
      · exact Or.inr rfl
    -- no blank is its first letter
    have hf : 48 ≤ x.2.2.2.getD 0 0 ∧ x.2.2.2.getD 0 0 ≤ 122 := by
      rcases g with ⟨-, g⟩ | ⟨-, -, g, -⟩ | ⟨-, -, g, -⟩
      · rw [g]; decide
      · have := g 0 (by omega); omega
      · have := g 0 (by omega); omega
    have eP : nxP T n pre.length = pre.length + s := by
      unfold nxP
      refine rn_w s _ _ (fun j hj => ?_) (by omega) (fun _ => ?_)
      · obtain rfl : j = 0 := by omega
        have hx : x.1 = true := by
          cases e : x.1 with
          | true => rfl
          | false => rw [e] at hs; simp at hs; omega
        rw [hT2 _ (by omega), getD_app, if_pos (by omega), getD_app, if_neg (by omega)]
        unfold rdI
        rw [if_pos hx, Nat.add_zero, Nat.sub_self]
        rfl
      · have := hw 0 (by omega)
        rw [Nat.add_zero] at this
        rw [this]
        have := sp_n ⟨x.2.2.2.getD 0 0, by omega⟩ (by simp only; omega)
        exact this
    have hp : pre.length + s < n := by omega
    have h0 := hw 0 (by omega)
    rw [Nat.add_zero] at h0
    have fin : ∀ A, nxA T n (pre.length + s) = pre.length + s + x.2.2.2.length → tkF T n (pre.length + s) = x.2.1 → (x.2.1 = 3 → nuM T (n - (pre.length + s)) (pre.length + s) 0 = x.2.2.1) → (x.2.1 = 4 → nmX T n (pre.length + s) = oJ x.2.2.1) → A = nxP T n pre.length → Tok T n A ((x :: L).map tkI) := by
      intro A a1 a2 a3 a4 a5
      rw [a5, eP]
      refine ⟨hp, a2, a3, a4, ?_⟩
      rw [a1, ← hpl]
      exact tok_rd L (pre ++ rdI x) (by rw [hn, List.append_assoc]; rfl) hT2 hC2
    refine fin _ ?_ ?_ ?_ ?_ rfl
    all_goals
      rcases g with ⟨g1, g2⟩ | ⟨g1, g2, g3, g4⟩ | ⟨g1, g2, g3, g4, g5⟩
    · have e59 : T (pre.length + s) = nI 59 := by rw [h0, g2]; rfl
      unfold nxA
      rw [if_neg (by omega), e59, if_neg (by decide), if_neg (by decide), g2]
      rfl
    · obtain ⟨q1, q2⟩ := g3 0 (by omega)
      obtain ⟨z1, z2⟩ := hb (by omega)
      unfold nxA
      rw [if_neg (by omega), h0, if_neg (by rw [sm_n (by omega)]; decide), if_pos (dg_y q1 q2)]
      refine rn_w _ _ _ (fun j hj => ?_) (by omega) (fun _ => ?_)
      · rw [hw j hj]; exact dg_y (g3 j hj).1 (g3 j hj).2
      · rcases z2 with z | z <;> rw [z] <;> decide
    · obtain ⟨q1, q2⟩ := g3 0 (by omega)
      obtain ⟨z1, z2⟩ := hb (by omega)
      unfold nxA
      rw [if_neg (by omega), h0, if_pos (sm_y q1 q2)]
      refine rn_w _ _ _ (fun j hj => ?_) (by omega) (fun _ => ?_)
      · rw [hw j hj]; exact sm_y (g3 j hj).1 (g3 j hj).2
      · rcases z2 with z | z <;> rw [z] <;> decide
    · have e59 : T (pre.length + s) = nI 59 := by rw [h0, g2]; rfl
      unfold tkF
      rw [if_neg (by omega), e59, if_neg (by decide), if_neg (by decide), if_pos (by decide), g1]
    · obtain ⟨q1, q2⟩ := g3 0 (by omega)
      unfold tkF
      rw [if_neg (by omega), h0, if_neg (by rw [sm_n (by omega)]; decide), if_pos (dg_y q1 q2), g1]
    · obtain ⟨q1, q2⟩ := g3 0 (by omega)
      obtain ⟨z1, z2⟩ := hb (by omega)
      have er : rn smB T (n - (pre.length + s)) (pre.length + s) = pre.length + s + x.2.2.2.length := by
        refine rn_w _ _ _ (fun j hj => ?_) (by omega) (fun _ => ?_)
        · rw [hw j hj]; exact sm_y (g3 j hj).1 (g3 j hj).2
        · rcases z2 with z | z <;> rw [z] <;> decide
      have ec : cdB 27 (lt' T (pre.length + s)) x.2.2.2.length = cod x.2.2.2 := cdB_congr (fun j hj => by
        unfold lt'
        rw [hw j hj, nI_clamp (by have := (g3 j hj).2; omega)])
      unfold tkF
      rw [if_neg (by omega), h0, if_pos (sm_y q1 q2), er, show pre.length + s + x.2.2.2.length - (pre.length + s) = x.2.2.2.length by omega, ec]
      exact g4
    · intro z; omega
    · intro _
      obtain ⟨z1, z2⟩ := hb (by omega)
      rw [nu_w x.2.2.2 _ _ 0 (fun j hj => ⟨hw j hj, g3 j hj⟩) (by omega) (fun _ => by rcases z2 with z | z <;> rw [z] <;> decide)]
      exact g4
    · intro z; omega
    · intro z; omega
    · intro z; omega
    · intro z
      obtain ⟨q1, q2⟩ := g3 0 (by omega)
      obtain ⟨z1, z2⟩ := hb (by omega)
      have er : nxA T n (pre.length + s) = pre.length + s + x.2.2.2.length := by
        unfold nxA
        rw [if_neg (by omega), h0, if_pos (sm_y q1 q2)]
        refine rn_w _ _ _ (fun j hj => ?_) (by omega) (fun _ => ?_)
        · rw [hw j hj]; exact sm_y (g3 j hj).1 (g3 j hj).2
        · rcases z2 with z | z <;> rw [z] <;> decide
      have ec : cdB 27 (lt' T (pre.length + s)) x.2.2.2.length = cod x.2.2.2 := cdB_congr (fun j hj => by
        unfold lt'
        rw [hw j hj, nI_clamp (by have := (g3 j hj).2; omega)])
      show oJ (cdB 27 (lt' T (pre.length + s)) (nxA T n (pre.length + s) - (pre.length + s))) = _
      rw [er, show pre.length + s + x.2.2.2.length - (pre.length + s) = x.2.2.2.length by omega, ec, g5 z]

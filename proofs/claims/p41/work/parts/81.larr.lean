/-! THE LAW'S ARRAYS: counts, parts -/
def AR (σ : Sg) (k y n : Nat) : Prop := gS σ y = (k, n) ∧ 2000 ≤ y ∧ y < 2000 + gM σ ∧ n ≤ 8
section
variable {σ τ : Sg} {k y n f u gA sA : Nat}
theorem AR.q (h : AR σ k y n) (h1 : 2 ≤ k) (h2 : k ≤ 6) : ckQ σ y = true := by
  obtain ⟨e, h3, h4, -⟩ := h
  unfold ckQ
  simp [e, h1, h2, h3, h4]
  omega
theorem AR.a (h : AR σ k y n) {j : Nat} (hj : j < n) : ckA σ k y (nI j) = true := by
  obtain ⟨e, h3, h4, h5⟩ := h
  unfold ckA
  rw [e, inb_nI hj (by omega)]
  simp [h4]
  omega
theorem AR.b (h : AR σ k y n) {j : Nat} (hj : j < n) : ckB σ k y (nI j) = true := by
  obtain ⟨e, h3, h4, h5⟩ := h
  unfold ckB
  rw [e, inb_nI hj (by omega)]
  simp [h3, h4]
theorem fr_M {F : Nat → Nat → Bool} {A : Nat → Bool} (h : Fr F A σ τ) : gM τ = gM σ ∧ gS τ = gS σ ∧ gN τ = gN σ := ⟨congrArg (fun w : Tg => w.2.2.1) h.2.2.2, congrArg (fun w : Tg => w.2.2.2.2) h.2.2.2, h.2.2.1⟩
theorem AR.fr {F : Nat → Nat → Bool} {A : Nat → Bool} (h : AR σ k y n) (hf : Fr F A σ τ) : AR τ k y n := by
  obtain ⟨m1, m2, -⟩ := fr_M hf
  obtain ⟨e, h3, h4, h5⟩ := h
  exact ⟨by rw [m2]; exact e, h3, by rw [m1]; exact h4, h5⟩
/-- an object Found -/
def FO (σ : Sg) (f : Nat) : Prop := gS σ f = (1, 6) ∧ 2000 ≤ f ∧ f < 2000 + gM σ
theorem FO.fr {F : Nat → Nat → Bool} {A : Nat → Bool} (h : FO σ f) (hf : Fr F A σ τ) : FO τ f := by
  obtain ⟨m1, m2, -⟩ := fr_M hf
  obtain ⟨e, h3, h4⟩ := h
  exact ⟨by rw [m2]; exact e, h3, by rw [m1]; exact h4⟩
theorem FO.h (h : FO σ f) : ckH σ 6 f = true := by
  obtain ⟨e, h3, h4⟩ := h
  unfold ckH
  simp [e, h3, h4]
theorem FO.p (h : FO σ f) (k : Nat) : ckP σ 6 k f = true := by
  unfold ckP
  rw [h.h]
  rfl
theorem g1_fr {l : List (Nat × Nat)} {m : List Nat} {a0 : Nat} (h : Fr (fF l) (fA m) σ τ) (hl : ∀ q ∈ l, a0 ≤ q.1) (hm : ∀ a ∈ m, a0 ≤ a) (hG : ∀ a i j, aG τ a i j = aG σ a i j) : G1 (fun x => a0 ≤ x) σ τ 0 := by
  obtain ⟨m1, m2, m3⟩ := fr_M h
  have m4 : gZ τ = gZ σ := congrArg (fun w : Tg => w.2.2.2.1) h.2.2.2
  refine ⟨fun a _ hx => ?_, m3, hG, by omega, by omega, by omega, by omega⟩
  have e1 : ∀ j, fF l a j = false := fun j => fF_no (fun z => hx (hl _ z))
  have e2 : fA m a = false := fA_no (fun z => hx (hm _ z))
  exact ⟨fun j => h.I a j (e1 j), fun j => h.J a j (e1 j), fun j => h.R a j (e1 j), fun j => h.aI a e2 j, fun j => h.aJ a e2 j, by rw [m2]⟩
/-- how many stand in a boolean[] -/
theorem n_many10 {p : Nat → Bool} (h : AR σ 3 y n) (hp : ∀ j, j < n → aI σ y j = bN (p j)) : ∀ (d i m acc : Nat), i + d = n → d < m → DL_many_10 m (nI acc) y (nI n) (nI i) σ = some (nI (acc + cN p i d), σ) := by
  have h8 := h.2.2.2
  intro d
  induction d with
  | zero =>
    intro i m acc hi hm
    obtain ⟨m, rfl⟩ : ∃ k, m = k + 1 := ⟨m - 1, by omega⟩
    rw [DL_many_10, if_pos ((nI_leI (by omega) (by omega)).mpr (by omega))]
    rfl
  | succ d ih =>
    intro i m acc hi hm
    obtain ⟨m, rfl⟩ : ∃ k, m = k + 1 := ⟨m - 1, by omega⟩
    rw [DL_many_10, if_neg (fun z => by have := (nI_leI (by omega) (by omega)).mp z; omega), h.b (by omega), chk_true, nI_clamp (by omega), hp i (by omega), show cN p i (d + 1) = (if p i then 1 else 0) + cN p (i + 1) d from rfl]
    unfold DL_many_33
    rw [show nI i + (1 : Int32) = nI (i + 1) from nI_add _ _]
    cases p i with
    | true => rw [if_neg (by decide), show nI acc + (1 : Int32) = nI (acc + 1) from nI_add _ _, ih (i + 1) m (acc + 1) (by omega) (by omega), if_pos rfl, Nat.add_assoc]
    | false => rw [if_pos (by decide), show nI acc + (0 : Int32) = nI acc from Int32.add_zero _, ih (i + 1) m acc (by omega) (by omega), if_neg (by decide), Nat.zero_add]
theorem n_many {p : Nat → Bool} (h : AR σ 3 y n) (hp : ∀ j, j < n → aI σ y j = bN (p j)) : DL_many y σ = some (nI (cN p 0 n), σ) := by
  have h8 := h.2.2.2
  unfold DL_many
  rw [h.q (by decide) (by decide), chk_true, h.1]
  have := n_many10 h hp n 0 FU 0 (by omega) (by unfold FU; omega)
  rw [Nat.zero_add] at this
  exact this
/-- an amount parted by numbers among some -/
def ptS (s : Nat → Bool) (g : Nat → Int) (k : Nat) : Int := if s k then g k else 0
theorem sI_b {g : Nat → Int} {B : Int} (hB : 0 ≤ B) (h : ∀ k, 0 ≤ g k ∧ g k ≤ B) : ∀ (d i : Nat), 0 ≤ sI g i d ∧ sI g i d ≤ B * d
  | 0, _ => ⟨Int.le_refl _, by show (0 : Int) ≤ B * 0; omega⟩
  | d + 1, i => by
    have h1 := h i
    have h2 := sI_b hB h d (i + 1)
    have e : B * ((d + 1 : Nat) : Int) = B * (d : Int) + B := by rw [Int.natCast_add, Int.mul_add]; simp
    unfold sI
    rw [e]
    omega
theorem w_parts {P : Int64} {s : Nat → Bool} {g : Nat → Int} (hf : FO σ f) (hu : gR σ f 1 = u) (lu : AR σ 4 u n) (lg : AR σ 4 gA n) (ls : AR σ 3 sA n) (hug : u ≠ gA) (hs : ∀ j, j < n → aI σ sA j = bN (s j)) (hg : ∀ j, j < n → (aJ σ gA j).toInt = g j) (hgb : ∀ j, 0 ≤ g j ∧ g j ≤ 1000000000) (hP : 0 ≤ P.toInt ∧ P.toInt ≤ 9999999) :
    Ok (DX8_parts f P gA sA σ) (fun _ τ => Fr (fF [(f, 4)]) (fA [u]) σ τ ∧ (gJ τ f 4).toInt = sI (ptS s g) 0 n ∧ ∀ k, k < n → (aJ τ u k).toInt = if s k then P.toInt * g k else 0) := by
  have h8 := lu.2.2.2
  have hu0 := lu.2.1
  have hpb : ∀ k, 0 ≤ ptS s g k ∧ ptS s g k ≤ 1000000000 := fun k => by
    have := hgb k
    unfold ptS
    split <;> omega
  have sb : ∀ i, i ≤ 8 → 0 ≤ sI (ptS s g) 0 i ∧ sI (ptS s g) 0 i ≤ 8000000000 := fun i hi => by
    have := sI_b (by omega) hpb i 0
    omega
  refine ok_of_q (fun Q hQ => ?_)
  -- the numbers times the amount
  have up : ∀ (d i m : Nat) (τ : Sg), i + d = n → d < m → Fr (fF [(f, 4)]) (fA [u]) σ τ → (gJ τ f 4).toInt = sI (ptS s g) 0 n → (∀ k, k < i → (aJ τ u k).toInt = if s k then P.toInt * g k else 0) → Ok (DX8_parts_49 m f P gA sA (nI i) τ) Q := by
    intro d
    induction d with
    | zero =>
      intro i m τ hi hm hfr h4 hk
      obtain ⟨m, rfl⟩ : ∃ k, m = k + 1 := ⟨m - 1, by omega⟩
      have lg' := lg.fr hfr
      rw [DX8_parts_49, lg'.q (by decide) (by decide), chk_true, lg'.1, if_pos ((nI_leI (by omega) (by omega)).mpr (by omega))]
      unfold DX8_parts_87
      exact ok_some.mpr (hQ () τ ⟨hfr, h4, fun k hk2 => hk k (by omega)⟩)
    | succ d ih =>
      intro i m τ hi hm hfr h4 hk
      obtain ⟨m, rfl⟩ : ∃ k, m = k + 1 := ⟨m - 1, by omega⟩
      have lg' := lg.fr hfr
      have ls' := ls.fr hfr
      have lu' := lu.fr hfr
      have hf' := hf.fr hfr
      have eR : gR τ f 1 = u := (hfr.R f 1 (fF_no (by simp))).trans hu
      have eS : aI τ sA i = bN (s i) := by
        by_cases z : sA = u
        · have a := ls.1
          rw [z, lu.1] at a
          exact absurd (congrArg Prod.fst a) (show ¬ (4 : Nat) = 3 by decide)
        · exact (hfr.aI sA (fA_no (by simp [z])) i).trans (hs i (by omega))
      have eG : aJ τ gA i = aJ σ gA i := hfr.aJ gA (fA_no (by simp [Ne.symm hug])) i
      have gb := hgb i
      rw [DX8_parts_49, lg'.q (by decide) (by decide), chk_true, lg'.1, if_neg (fun z => by have := (nI_leI (by omega) (by omega)).mp z; omega), hf'.p, chk_true, eR, show ckV u = true from decide_eq_true (by omega), chk_true, ls'.b (by omega), chk_true, nI_clamp (by omega), eS]
      unfold DX8_parts_80
      rw [lu'.b (by omega), nI_clamp (by omega), show nI i + (1 : Int32) = nI (i + 1) from nI_add _ _, lg'.b (by omega)]
      have nx : ∀ v : Int64, v.toInt = (if s i then P.toInt * g i else 0) → Ok (DX8_parts_49 m f P gA sA (nI (i + 1)) (wJ τ u i v)) Q := fun v hv => by
        refine ih (i + 1) m _ (by omega) (by omega) (hfr.wJ u i v (fA_in (by simp))) h4 (fun k hk2 => ?_)
        rw [aJ_wJ]
        by_cases z : k = i
        · rw [if_pos ⟨rfl, z⟩, z]; exact hv
        · rw [if_neg (fun w => z w.2)]; exact hk k (by omega)
      cases es : s i with
      | true =>
        rw [if_neg (by decide), chk_true, chk_true, wlet_eq]
        refine nx _ ?_
        rw [es, if_pos rfl, l_mul, eG, hg i (by omega)]
        rw [eG, hg i (by omega)]
        have h1 := Int.mul_nonneg hP.1 gb.1
        have h2 := Int.mul_le_mul hP.2 gb.2 gb.1 (by omega)
        unfold sm
        omega
      | false =>
        rw [if_pos (by decide), chk_true, wlet_eq]
        exact nx _ (by rw [es]; rfl)
  have dn : ∀ (d i m : Nat) (τ : Sg), i + d = n → d < m → Fr (fF [(f, 4)]) (fA []) σ τ → (gJ τ f 4).toInt = sI (ptS s g) 0 i → Ok (DX8_parts_8 m f P gA sA (nI i) τ) Q := by
    intro d
    induction d with
    | zero =>
      intro i m τ hi hm hfr h4
      obtain ⟨m, rfl⟩ : ∃ k, m = k + 1 := ⟨m - 1, by omega⟩
      have lg' := lg.fr hfr
      rw [DX8_parts_8, lg'.q (by decide) (by decide), chk_true, lg'.1, if_pos ((nI_leI (by omega) (by omega)).mpr (by omega))]
      unfold DX8_parts_46
      exact up n 0 FU τ (by omega) (by unfold FU; omega) (hfr.mono (fun _ _ z => z) (fun a _ => fA_no (by simp))) (by rw [h4, show i = n by omega]) (fun k hk => absurd hk (Nat.not_lt_zero _))
    | succ d ih =>
      intro i m τ hi hm hfr h4
      obtain ⟨m, rfl⟩ : ∃ k, m = k + 1 := ⟨m - 1, by omega⟩
      have lg' := lg.fr hfr
      have ls' := ls.fr hfr
      have hf' := hf.fr hfr
      have eS : aI τ sA i = bN (s i) := (hfr.aI sA (fA_no (by simp)) i).trans (hs i (by omega))
      have eG : aJ τ gA i = aJ σ gA i := hfr.aJ gA (fA_no (by simp)) i
      have gb := hgb i
      have sb1 := sb i (by omega)
      have sl := sI_last (f := ptS s g) i 0
      rw [Nat.zero_add] at sl
      rw [DX8_parts_8, lg'.q (by decide) (by decide), chk_true, lg'.1, if_neg (fun z => by have := (nI_leI (by omega) (by omega)).mp z; omega), hf'.p, chk_true, ls'.b (by omega), chk_true, nI_clamp (by omega), eS]
      unfold DX8_parts_36
      rw [hf'.h, show nI i + (1 : Int32) = nI (i + 1) from nI_add _ _, lg'.b (by omega)]
      have nx : ∀ v : Int64, v.toInt = ptS s g i → Ok (DX8_parts_8 m f P gA sA (nI (i + 1)) (pJ τ f 4 (gJ τ f 4 + v))) Q := fun v hv => by
        refine ih (i + 1) m _ (by omega) (by omega) (hfr.pJ f 4 _ (fF_in (by simp))) ?_
        have pb := hpb i
        rw [gJ_pJ, if_pos ⟨rfl, rfl⟩, l_add (by unfold sm; rw [h4, hv]; omega), h4, hv, sl]
      cases es : s i with
      | true =>
        rw [if_neg (by decide), chk_true, chk_true, wlet_eq]
        refine nx _ ?_
        unfold ptS
        rw [es, if_pos rfl, eG, hg i (by omega)]
      | false =>
        rw [if_pos (by decide), chk_true, wlet_eq]
        refine nx _ ?_
        unfold ptS
        rw [es]
        rfl
  unfold DX8_parts
  rw [hf.h, chk_true, wlet_eq]
  exact dn n 0 FU _ (by omega) (by unfold FU; omega) (Fr.rf.pJ f 4 _ (fF_in (by simp))) (by rw [gJ_pJ, if_pos ⟨rfl, rfl⟩]; rfl)
end

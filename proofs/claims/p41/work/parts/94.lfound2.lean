/-! THE LAW FINDS: what each coupon has -/
section
variable {c : Nat → Int32} {σT σ τ : Sg} {f t fl : Nat} {car sh flw : Nat → Int32} {how sk bu pl : Int32}
theorem phC_m2 {W : Nat → Nat} {n k : Nat} : phC σT 14 W n t (-2) car k = -1 := by
  unfold phC
  cases W 5 with
  | zero => rfl
  | succ d => unfold phR; rw [if_pos rfl]
/-- where found stands before coupon i -/
def FI (c : Nat → Int32) (σT σ : Sg) (f t fl : Nat) (car sh : Nat → Int32) (how sk : Int32) (i : Nat) (mo : Int64) (τ : Sg) : Prop :=
  Fr (fF []) (fA [f + 3, f + 4, f + 5, f + 6, f + 7, f + 8]) σ τ ∧
  (∀ k, k < i → aI τ (f + 5) k = bN (decide (fl ≤ k)) ∧ (aJ τ (f + 6) k).toInt = fcC σT 14 (Wf c) t how car k ∧ (aJ τ (f + 7) k).toInt = vlC σT 14 (Wf c) (nCo c t) t sk car k ∧ aI τ (f + 8) k = kdC σT 14 (Wf c) (nCo c t) t sk car k ∧ (k < fl → aI τ (f + 3) k = sh k ∧ aI τ (f + 4) k = 5) ∧ (fl ≤ k → aI τ (f + 4) k = 0)) ∧
  (∀ k, i ≤ k → aI τ (f + 4) k = 0) ∧ mo.toInt = (nF c t : Int) - sI (fun k => if k < fl then (sh k).toInt else 0) 0 i
/-- what found is given -/
def FG0 (c : Nat → Int32) (σT σ : Sg) (f t fl y z : Nat) (car sh flw : Nat → Int32) (how sk bu pl : Int32) : Prop :=
  (Tab c σT ∧ t < nTk c ∧ (∀ k, k < nCo c t → ∃ cc, car k = nI cc ∧ cc < nCa c) ∧ (∃ hw, how = nI hw ∧ hw ≤ 1) ∧ CfOK σT 14 t (nCo c t) fl sh) ∧
  (IA σ y (nCo c t) car ∧ IA σ z (nCo c t) flw ∧ y < f ∧ z < f) ∧ ((pl = 0 ∧ sk = bu ∧ sk ≠ -2 ∧ ∀ k, k < nCo c t → flw k = if k < fl then sh k else -1) ∨ (pl = 1 ∧ sk = -2 ∧ fl = 0))
theorem FG0.shb {y z : Nat} (h : FG0 c σT σ f t fl y z car sh flw how sk bu pl) {k : Nat} (hk : k < fl) : 0 ≤ (sh k).toInt ∧ (sh k).toInt ≤ 3000 := by
  obtain ⟨⟨hT, ht, hc, hh, c1, c2, c3, c4⟩, -⟩ := h
  have e := (hT.2.2.2.2.2 t ht).1
  have bf := nF_b c t
  have := sI_mem (f := fun k => (sh k).toInt) fl 0 (fun j _ hj => c2 j (by omega)) k (by omega) (by omega)
  rw [show aG σT (14 + 9) t 0 = _ from e, nI_i (by omega)] at c3
  exact ⟨c2 k hk, by omega⟩
theorem f_50 {y z : Nat} {Q : Nat → Sg → Prop} (hW : WT c σ) (hN : NF σ f (nCo c t)) (h : FG0 c σT σ f t fl y z car sh flw how sk bu pl)
    (hQ : ∀ τ mo, FI c σT σ f t fl car sh how sk (nCo c t) mo τ → Ok (DL_found_256 f mo (f + 5) (f + 6) (f + 7) (f + 8) τ) Q) :
    ∀ (d i m : Nat) (τ : Sg) (mo : Int64), i + d = nCo c t → d < m → FI c σT σ f t fl car sh how sk i mo τ → Ok (DL_found_50 m 1024 (nI t) how y z bu pl (nI (nCo c t)) f mo (f + 5) (f + 6) (f + 7) (f + 8) (nI i) τ) Q := by
  have shb := fun k hk => h.shb (k := k) hk
  obtain ⟨⟨hT, ht, hc, ⟨hw, hh1, hh2⟩, c1, c2, c3, c4⟩, ⟨iy, iz, hyf, hzf⟩, hcase⟩ := h
  have bo := nCo_b c t
  have bt := nTk_b c
  have ba := nCa_b c
  have bp5 := nPr_b c
  obtain ⟨n0, n1, ⟨r0, r1, r2, r3⟩, ⟨s1, s2, s3, s4, s5, s6, s7, s8⟩, -⟩ := hN
  have hf0 := n0.2.1
  have hX : ∀ τ', Fr (fF []) (fA [f + 3, f + 4, f + 5, f + 6, f + 7, f + 8]) σ τ' → HX (fun a => a < f) σ τ' 0 := fun τ' hf => hx_fr hf (fun q hq => absurd hq (List.not_mem_nil)) (fun a ha => by
    have : a = f + 3 ∨ a = f + 4 ∨ a = f + 5 ∨ a = f + 6 ∨ a = f + 7 ∨ a = f + 8 := by simpa using ha
    show ¬ a < f
    omega)
  have hSc : ∀ τ', Fr (fF []) (fA [f + 3, f + 4, f + 5, f + 6, f + 7, f + 8]) σ τ' → Sc c τ' := fun τ' hf => (hW.hx (hX τ' hf) (fun a ha => by show a < f; omega)).sc
  have hy : ∀ τ', Fr (fF []) (fA [f + 3, f + 4, f + 5, f + 6, f + 7, f + 8]) σ τ' → IA τ' y (nCo c t) car := fun τ' hf => iy.hx (hX τ' hf) hyf
  have hz : ∀ τ', Fr (fF []) (fA [f + 3, f + 4, f + 5, f + 6, f + 7, f + 8]) σ τ' → IA τ' z (nCo c t) flw := fun τ' hf => iz.hx (hX τ' hf) hzf
  intro d
  induction d with
  | zero =>
    intro i m τ mo hi hm hF
    obtain ⟨m, rfl⟩ : ∃ k, m = k + 1 := ⟨m - 1, by omega⟩
    rw [DL_found_50, if_pos ((nI_leI (by omega) (by omega)).mpr (by omega))]
    rw [show i = nCo c t by omega] at hF
    exact hQ τ mo hF
  | succ d ih =>
    intro i m τ mo hi hm hF
    obtain ⟨m, rfl⟩ : ∃ k, m = k + 1 := ⟨m - 1, by omega⟩
    obtain ⟨hfr, hv, hz4, hmo⟩ := hF
    have hi' : i < nCo c t := by omega
    have hcl : (nI i).toNatClampNeg = i := nI_clamp (by omega)
    have nx1 : nI i + (1 : Int32) = nI (i + 1) := nI_add _ _
    obtain ⟨cc, hcc, hcc2⟩ := hc i hi'
    have k01 : ck01 (bN (decide (fl ≤ i))) = true := by cases decide (fl ≤ i) <;> decide
    -- the states of one turn
    obtain ⟨τ1, hτ1⟩ : ∃ τ1, wI τ (f + 5) i (bN (decide (fl ≤ i))) = τ1 := ⟨_, rfl⟩
    have F1 : Fr (fF []) (fA [f + 3, f + 4, f + 5, f + 6, f + 7, f + 8]) σ τ1 := by rw [← hτ1]; exact hfr.wI (f + 5) i _ (fA_in (by simp))
    obtain ⟨FV, hFV1, hFV2⟩ := n_factor (hSc τ1 F1) hT (W := Wf c) rfl rfl hh1 hh2 ht hi' hcc hcc2
    obtain ⟨τ2, hτ2⟩ : ∃ τ2, wJ τ1 (f + 6) i FV = τ2 := ⟨_, rfl⟩
    have F2 : Fr (fF []) (fA [f + 3, f + 4, f + 5, f + 6, f + 7, f + 8]) σ τ2 := by rw [← hτ2]; exact F1.wJ (f + 6) i _ (fA_in (by simp))
    obtain ⟨PH, hPH⟩ : ∃ PH, phC σT 14 (Wf c) (nCo c t) t sk car i = PH := ⟨_, rfl⟩
    obtain ⟨KV, hKV⟩ : ∃ KV, kdC σT 14 (Wf c) (nCo c t) t sk car i = KV := ⟨_, rfl⟩
    obtain ⟨τ3, hτ3⟩ : ∃ τ3, wI τ2 (f + 8) i KV = τ3 := ⟨_, rfl⟩
    have F3 : Fr (fF []) (fA [f + 3, f + 4, f + 5, f + 6, f + 7, f + 8]) σ τ3 := by rw [← hτ3]; exact F2.wI (f + 8) i _ (fA_in (by simp))
    -- the turn's end
    have go205 : ∀ AV : Int64, AV.toInt = vlC σT 14 (Wf c) (nCo c t) t sk car i → Ok (DL_found_205 (DL_found_50 m) 1024 (nI t) how y z bu pl (nI (nCo c t)) f mo (f + 5) (f + 6) (f + 7) (f + 8) (nI i) (f + 7) (nI i) AV τ3) Q := fun AV hAV => by
      obtain ⟨τ4, hτ4⟩ : ∃ τ4, wJ τ3 (f + 7) i AV = τ4 := ⟨_, rfl⟩
      have F4 : Fr (fF []) (fA [f + 3, f + 4, f + 5, f + 6, f + 7, f + 8]) σ τ4 := by rw [← hτ4]; exact F3.wJ (f + 7) i _ (fA_in (by simp))
      have a5 : ∀ k, aI τ4 (f + 5) k = if k = i then bN (decide (fl ≤ i)) else aI τ (f + 5) k := fun k => by
        rw [← hτ4, aI_wJ, ← hτ3, aI_wI, if_neg (by omega), ← hτ2, aI_wJ, ← hτ1, aI_wI]
        by_cases q : k = i
        · rw [if_pos ⟨rfl, q⟩, if_pos q]
        · rw [if_neg (fun z => q z.2), if_neg q]
      have a6 : ∀ k, aJ τ4 (f + 6) k = if k = i then FV else aJ τ (f + 6) k := fun k => by
        rw [← hτ4, aJ_wJ, if_neg (by omega), ← hτ3, aJ_wI, ← hτ2, aJ_wJ, ← hτ1, aJ_wI]
        by_cases q : k = i
        · rw [if_pos ⟨rfl, q⟩, if_pos q]
        · rw [if_neg (fun z => q z.2), if_neg q]
      have a7 : ∀ k, aJ τ4 (f + 7) k = if k = i then AV else aJ τ (f + 7) k := fun k => by
        rw [← hτ4, aJ_wJ, ← hτ3, aJ_wI, ← hτ2, aJ_wJ, if_neg (show ¬ (f + 7 = f + 6 ∧ k = i) by omega), ← hτ1, aJ_wI]
        by_cases q : k = i
        · rw [if_pos ⟨rfl, q⟩, if_pos q]
        · rw [if_neg (fun z => q z.2), if_neg q]
      have a8 : ∀ k, aI τ4 (f + 8) k = if k = i then KV else aI τ (f + 8) k := fun k => by
        rw [← hτ4, aI_wJ, ← hτ3, aI_wI, ← hτ2, aI_wJ, ← hτ1, aI_wI, if_neg (show ¬ (f + 8 = f + 5 ∧ k = i) by omega)]
        by_cases q : k = i
        · rw [if_pos ⟨rfl, q⟩, if_pos q]
        · rw [if_neg (fun z => q z.2), if_neg q]
      have a3 : ∀ k, aI τ4 (f + 3) k = aI τ (f + 3) k := fun k => by rw [← hτ4, aI_wJ, ← hτ3, aI_wI, if_neg (by omega), ← hτ2, aI_wJ, ← hτ1, aI_wI, if_neg (by omega)]
      have a4 : ∀ k, aI τ4 (f + 4) k = aI τ (f + 4) k := fun k => by rw [← hτ4, aI_wJ, ← hτ3, aI_wI, if_neg (by omega), ← hτ2, aI_wJ, ← hτ1, aI_wI, if_neg (by omega)]
      have sl := sI_last (f := fun k => if k < fl then (sh k).toInt else 0) i 0
      rw [Nat.zero_add] at sl
      have sb := sI_b2 (g := fun k => if k < fl then (sh k).toInt else 0) (B := 3000) (by omega) i 0 (fun k _ _ => by
        by_cases q : k < fl
        · rw [if_pos q]; exact shb k q
        · rw [if_neg q]; omega)
      have bf := nF_b c t
      unfold DL_found_205 DL_found_250
      rw [(s7.fr F3).b hi', chk_true, hcl, wlet_eq, hτ4, (s5.fr F4).b hi', chk_true, a5 i, if_pos rfl, nx1]
      by_cases q : fl ≤ i
      · rw [decide_eq_true q, if_neg (by decide)]
        refine ih (i + 1) m τ4 mo (by omega) (by omega) ⟨F4, fun k hk => ?_, fun k hk => by rw [a4]; exact hz4 k (by omega), by rw [hmo, sl, if_neg (show ¬ i < fl by omega), Int.add_zero]⟩
        rw [a5, a6, a7, a8, a3, a4]
        by_cases e : k = i
        · subst e
          rw [if_pos rfl, if_pos rfl, if_pos rfl, if_pos rfl]
          exact ⟨rfl, hFV2, hAV, hKV.symm, fun z => by omega, fun _ => hz4 k (Nat.le_refl _)⟩
        · rw [if_neg e, if_neg e, if_neg e, if_neg e]
          exact hv k (by omega)
      · have q' : i < fl := by omega
        have hfl : flw i = sh i := by
          rcases hcase with ⟨-, -, -, e⟩ | ⟨-, -, e⟩
          · rw [e i hi', if_pos q']
          · omega
        have bs := shb i q'
        have z4 := hz τ4 F4
        have ez : aI τ4 z i = sh i := (z4.2.2.2.2 i hi').trans hfl
        obtain ⟨τ5, hτ5⟩ : ∃ τ5, wI τ4 (f + 3) i (sh i) = τ5 := ⟨_, rfl⟩
        have F5 : Fr (fF []) (fA [f + 3, f + 4, f + 5, f + 6, f + 7, f + 8]) σ τ5 := by rw [← hτ5]; exact F4.wI (f + 3) i _ (fA_in (by simp))
        obtain ⟨τ6, hτ6⟩ : ∃ τ6, wI τ5 (f + 4) i 5 = τ6 := ⟨_, rfl⟩
        have F6 : Fr (fF []) (fA [f + 3, f + 4, f + 5, f + 6, f + 7, f + 8]) σ τ6 := by rw [← hτ6]; exact F5.wI (f + 4) i _ (fA_in (by simp))
        have z6 := hz τ6 F6
        have ez6 : aI τ6 z i = sh i := (z6.2.2.2.2 i hi').trans hfl
        rw [decide_eq_false q, if_pos (by decide), (n0.fr F4).p, chk_true, F4.R f 2 rfl, r2, show ckV (f + 3) = true from decide_eq_true (by omega), chk_true, z4.a hi', chk_true, (s3.fr F4).b hi', chk_true, ez, wlet_eq, hτ5, (n0.fr F5).p, chk_true, F5.R f 3 rfl, r3, show ckV (f + 4) = true from decide_eq_true (by omega), chk_true, (s4.fr F5).b hi', chk_true, wlet_eq, hτ6, z6.a hi', chk_true, ez6]
        have b3 : ∀ k, aI τ6 (f + 3) k = if k = i then sh i else aI τ (f + 3) k := fun k => by
          rw [← hτ6, aI_wI, if_neg (by omega), ← hτ5, aI_wI]
          by_cases q : k = i
          · rw [if_pos ⟨rfl, q⟩, if_pos q]
          · rw [if_neg (fun z => q z.2), if_neg q, a3]
        have b4 : ∀ k, aI τ6 (f + 4) k = if k = i then 5 else aI τ (f + 4) k := fun k => by
          rw [← hτ6, aI_wI]
          by_cases q : k = i
          · rw [if_pos ⟨rfl, q⟩, if_pos q]
          · rw [if_neg (fun z => q z.2), if_neg q, ← hτ5, aI_wI, if_neg (by omega), a4]
        have b5 : ∀ k, aI τ6 (f + 5) k = aI τ4 (f + 5) k := fun k => by rw [← hτ6, aI_wI, if_neg (by omega), ← hτ5, aI_wI, if_neg (by omega)]
        have b8 : ∀ k, aI τ6 (f + 8) k = aI τ4 (f + 8) k := fun k => by rw [← hτ6, aI_wI, if_neg (by omega), ← hτ5, aI_wI, if_neg (by omega)]
        have b6 : ∀ k, aJ τ6 (f + 6) k = aJ τ4 (f + 6) k := fun k => by rw [← hτ6, aJ_wI, ← hτ5, aJ_wI]
        have b7 : ∀ k, aJ τ6 (f + 7) k = aJ τ4 (f + 7) k := fun k => by rw [← hτ6, aJ_wI, ← hτ5, aJ_wI]
        refine ih (i + 1) m τ6 _ (by omega) (by omega) ⟨F6, fun k hk => ?_, fun k hk => by rw [b4, if_neg (by omega)]; exact hz4 k (by omega), ?_⟩
        · rw [b5, b6, b7, b8, a5, a6, a7, a8, b3, b4]
          by_cases e : k = i
          · subst e
            rw [if_pos rfl, if_pos rfl, if_pos rfl, if_pos rfl, if_pos rfl, if_pos rfl]
            exact ⟨rfl, hFV2, hAV, hKV.symm, fun _ => ⟨rfl, rfl⟩, fun z => by omega⟩
          · rw [if_neg e, if_neg e, if_neg e, if_neg e, if_neg e, if_neg e]
            exact hv k (by omega)
        · have x64 : (sh i).toInt64.toInt = (sh i).toInt := i_l
          rw [l_sub (by unfold sm; rw [x64, hmo]; omega), x64, hmo, sl, if_pos q']
          omega
    have go130 : Ok (DL_found_130 (DL_found_50 m) 1024 (nI t) how y z bu pl (nI (nCo c t)) f mo (f + 5) (f + 6) (f + 7) (f + 8) (nI i) (n2 PH) τ2) Q := by
      unfold DL_found_130 DL_found_152
      rcases phC_in (σ := σT) (b := 14) (n := nCo c t) (t := t) (k := i) (W := Wf c) (sk := sk) (car := car) with e | ⟨p, e, hp⟩
      · rw [hPH] at e
        have eK : KV = 0 := by rw [← hKV]; unfold kdC kdP; rw [hPH, e, if_pos rfl]
        have eV : vlC σT 14 (Wf c) (nCo c t) t sk car i = 0 := by unfold vlC vlP; rw [hPH, e, if_pos rfl]
        rw [eK] at hτ3
        rw [e, show n2 (-1) = -2 from rfl, if_neg (by decide), (s8.fr F2).b hi', chk_true, hcl, wlet_eq, hτ3, if_neg (by decide)]
        exact go205 0 (by rw [eV]; rfl)
      · rw [hPH] at e
        have hp : p < nPr c := hp
        have hp50 : p < 50 := by omega
        have np : ¬ nI p = -1 := nI_neg (by omega)
        have v := n_pro (hSc τ2 F2) p hp50
        have v3 := n_pro (hSc τ3 F3) p hp50
        obtain ⟨w0, w1, w2, w3, w4, w5⟩ := hT.2.2.2.1 p hp
        have w3 : aG σT (14 + 7) p 3 = nI (pK c p) := w3
        have w4 : aG σT (14 + 7) p 4 = nI (pV c p) := w4
        have bk := pK_b c p
        have bv := pV_b c p
        have bf := nF_b c t
        have eF : aG σT (14 + 9) t 0 = nI (nF c t) := (hT.2.2.2.2.2 t ht).1
        have eK : KV = nI (pK c p) := by rw [← hKV]; unfold kdC kdP; rw [hPH, e, if_neg np, nI_clamp (by omega)]; exact w3
        have g8 : aI τ3 (f + 8) i = KV := by rw [← hτ3, aI_wI, if_pos ⟨rfl, rfl⟩]
        rw [e, show n2 (nI p) = nI p from if_neg np, if_pos (show (0 : Int32) ≤ nI p from nI_pos' (by omega)), v.2.2.2.1, bnd_some, (s8.fr F2).b hi', chk_true, hcl, ← eK, wlet_eq, hτ3, if_pos (show (0 : Int32) ≤ nI p from nI_pos' (by omega)), (s8.fr F3).a hi', chk_true, g8]
        have vT := v3.2.2.2.2.1
        by_cases q : KV = 2
        · rw [if_pos q, n_fare (hSc τ3 F3) t (by omega), bnd_some, vT, bnd_some, show ckM (100 : Int64) = true by decide, chk_true]
          refine go205 _ ?_
          unfold vlC vlP
          rw [hPH, e, if_neg np, nI_clamp (by omega), if_pos (by rw [w3, ← eK]; exact q), eF, w4]
          have im : ((nI (nF c t)).toInt64 * (nI (pV c p)).toInt64).toInt = (nI (nF c t)).toInt * (nI (pV c p)).toInt := ii_mul (by rw [nI_i (by omega)]; omega) (by rw [nI_i (by omega)]; omega)
          rw [l_div (by rw [im, nI_i (by omega), nI_i (by omega)]; exact Int.mul_nonneg (by omega) (by omega)) (by decide), im, show (100 : Int64).toInt = 100 by decide]
        · rw [if_neg q, vT, bnd_some]
          refine go205 _ ?_
          unfold vlC vlP
          rw [hPH, e, if_neg np, nI_clamp (by omega), if_neg (by rw [w3, ← eK]; exact q), w4]
          exact i_l
    have go79 : Ok (DL_found_79 (DL_found_50 m) 1024 (nI t) how y z bu pl (nI (nCo c t)) f mo (f + 5) (f + 6) (f + 7) (f + 8) (nI i) (f + 5) (nI i) (bN (decide (fl ≤ i))) τ) Q := by
      have y1 := hy τ1 F1
      have ey : aI τ1 y i = nI cc := (y1.2.2.2.2 i hi').trans hcc
      unfold DL_found_79
      rw [(s5.fr hfr).b hi', chk_true, k01, chk_true, hcl, wlet_eq, hτ1, y1.a hi', chk_true, n_at (hSc τ1 F1) t i (by omega) (by omega), bnd_some, nx1, n_at (hSc τ1 F1) t (i + 1) (by omega) (by omega), bnd_some, ey, hFV1, bnd_some, (s6.fr F1).b hi', chk_true, wlet_eq, hτ2]
      rcases hcase with ⟨e1, e2, e3, -⟩ | ⟨e1, e2, e3⟩
      · have hh := n_holds (hSc τ2 F2) hT (W := Wf c) rfl (hy τ2 F2) ht hi' e3 ⟨cc, hcc, by omega⟩
        rw [hPH] at hh
        rw [if_pos e1, ← e2, hh, bnd_some]
        rw [← e2] at go130
        exact go130
      · rw [if_neg (by rw [e1]; decide)]
        have ep : PH = -1 := by rw [← hPH, e2]; exact phC_m2
        rw [ep] at go130
        exact go130
    rw [DL_found_50, if_neg (fun z => by have := (nI_leI (by omega) (by omega)).mp z; omega)]
    rcases hcase with ⟨e1, e2, e3, e4⟩ | ⟨e1, e2, e3⟩
    · have zz := hz τ hfr
      have ez : aI τ z i = if i < fl then sh i else -1 := (zz.2.2.2.2 i hi').trans (e4 i hi')
      rw [if_pos e1, zz.a hi', chk_true, hcl, ez]
      by_cases q : i < fl
      · rw [if_pos q, if_pos (show (0 : Int32) ≤ sh i from i_le.mpr (shb i q).1)]
        rw [decide_eq_false (show ¬ fl ≤ i by omega)] at go79
        exact go79
      · rw [if_neg q, if_neg (by decide)]
        rw [decide_eq_true (show fl ≤ i by omega)] at go79
        unfold DL_found_74
        exact go79
    · rw [if_neg (by rw [e1]; decide)]
      rw [decide_eq_true (show fl ≤ i by omega)] at go79
      unfold DL_found_74
      exact go79
end

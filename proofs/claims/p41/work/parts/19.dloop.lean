section
variable {E : Ev} {p : Program} {l : Launch} {e : Env} {s : State} {m : MethodId} {args : Array Value} {below : List Frame} {meth : Method} {c : Code} {R : Room} {Q : State → Prop} {σ0 : Sg} {c0 z0 : Nat}
def DL_law_106 (K30 : Nat → Nat → Nat → Nat → Int32 → Sg → Option (Int32 × Sg)) (l0 : Nat) (l1 : Nat) (l2 : Nat) (l3 : Nat) (l4 : Int32) (σ : Sg) : Option (Int32 × Sg) :=
  K30 l0 l1 l2 l3 (l4 + (1 : Int32)) σ
theorem uL_law_106 {r : Int32} {σ' : Sg} {K30 : Nat → Nat → Nat → Nat → Int32 → Sg → Option (Int32 × Sg)} (hU30 : ∀ (l0 : Nat) (l1 : Nat) (l2 : Nat) (l3 : Nat) (l4 : Int32) (σ : Sg), K30 l0 l1 l2 l3 l4 σ = some (r, σ') → Mo σ σ') {l0 : Nat} {l1 : Nat} {l2 : Nat} {l3 : Nat} {l4 : Int32} {σ : Sg} (h : DL_law_106 K30 l0 l1 l2 l3 l4 σ = some (r, σ')) : Mo σ σ' := by
  unfold DL_law_106 at h
  obtain ⟨mz1, mz2⟩ := hU30 _ _ _ _ _ _ h
  exact ⟨by omega, by omega⟩
theorem tL_law_106 {r : Int32} {σ' : Sg} (C : Cx E p s m args meth c "ProratesLaw" cL_law 13) (hr : meth.sig.returnType = (some .boolean)) (hR : RR R 10 (c0 + (gM σ' - gM σ0)) (z0 + (gZ σ' - gZ σ0))) (hend : ∀ (pc : Nat) (L : List (Option Value)), decode cL_law pc = .ok (.ireturn, 1) → X E p l e R s m args below meth c Q 13 (c0 + (gM σ' - gM σ0)) (z0 + (gZ σ' - gZ σ0)) σ' pc L [.int r]) {K30 : Nat → Nat → Nat → Nat → Int32 → Sg → Option (Int32 × Sg)} (hK30 : ∀ (l0 : Nat) (l1 : Nat) (l2 : Nat) (l3 : Nat) (l4 : Int32) (σ : Sg), Mo σ0 σ → K30 l0 l1 l2 l3 l4 σ = some (r, σ') → X E p l e R s m args below meth c Q 13 (c0 + (gM σ - gM σ0)) (z0 + (gZ σ - gZ σ0)) σ 30 [some (.ref (ad E l0)), some (.ref (ad E l1)), some (.ref (ad E l2)), some (.ref (ad E l3)), some (.int l4), none, none, none, none, none, none, none, none] []) (hU30 : ∀ (l0 : Nat) (l1 : Nat) (l2 : Nat) (l3 : Nat) (l4 : Int32) (σ : Sg), K30 l0 l1 l2 l3 l4 σ = some (r, σ') → Mo σ σ') {l0 : Nat} {l1 : Nat} {l2 : Nat} {l3 : Nat} {l4 : Int32} {σ : Sg} (hm : Mo σ0 σ) (h : DL_law_106 K30 l0 l1 l2 l3 l4 σ = some (r, σ')) : X E p l e R s m args below meth c Q 13 (c0 + (gM σ - gM σ0)) (z0 + (gZ σ - gZ σ0)) σ 106 [some (.ref (ad E l0)), some (.ref (ad E l1)), some (.ref (ad E l2)), some (.ref (ad E l3)), some (.int l4), none, none, none, none, none, none, none, none] [] := by
  obtain ⟨my1, my2⟩ := uL_law_106 hU30 h
  unfold DL_law_106 at h
  obtain ⟨hm1, hm2⟩ := hm
  obtain ⟨hR1, hR2, hR3, hR4⟩ := id hR
  refine x_iinc (v := 1) (M := [some _, some _, some _, some _, some _, none, none, none, none, none, none, none, none]) (pc := 106) C dL_law_106 rfl (by decide) (by decide) rfl ?_
  refine x_goto (tgt := 30) (pc := 109) C dL_law_109 (by decide) ?_
  exact x_sub (x_wide (by omega) (by omega) (hK30 _ _ _ _ _ _ ⟨by omega, by omega⟩ h)) (xLe_s (xLe_s (xLe_s (xLe_s (xLe_s (xLe_n (xLe_n (xLe_n (xLe_n (xLe_n (xLe_n (xLe_n (xLe_n xLe_0)))))))))))))
def DL_law_66 (K30 : Nat → Nat → Nat → Nat → Int32 → Sg → Option (Int32 × Sg)) : Nat → Nat → Nat → Nat → Nat → Int32 → Int32 → Sg → Option (Int32 × Sg)
  | 0, _, _, _, _, _, _, _ => none
  | n + 1, l0, l1, l2, l3, l4, l5, σ =>
    bnd (DL_coupons l0 l4 σ) fun v1 σ2 =>
    if v1 ≤ l5 then
      DL_law_106 K30 l0 l1 l2 l3 l4 σ2
    else
      chk (ckB σ2 5 l2 l4) <|
      chk (ckV (gR σ2 l2 l4.toNatClampNeg)) <|
      bnd (DL_carrier l0 l4 l5 σ2) fun v3 σ4 =>
      chk (ckB σ4 2 (gR σ2 l2 l4.toNatClampNeg) l5) <|
      wlet (wI σ4 (gR σ2 l2 l4.toNatClampNeg) l5.toNatClampNeg v3) fun σ5 =>
      chk (ckB σ5 5 l3 l4) <|
      chk (ckV (gR σ5 l3 l4.toNatClampNeg)) <|
      chk (ckB σ5 2 (gR σ5 l3 l4.toNatClampNeg) l5) <|
      wlet (wI σ5 (gR σ5 l3 l4.toNatClampNeg) l5.toNatClampNeg (-1 : Int32)) fun σ6 =>
      DL_law_66 K30 n l0 l1 l2 l3 l4 (l5 + (1 : Int32)) σ6
theorem uL_law_66 {r : Int32} {σ' : Sg} {K30 : Nat → Nat → Nat → Nat → Int32 → Sg → Option (Int32 × Sg)} (hU30 : ∀ (l0 : Nat) (l1 : Nat) (l2 : Nat) (l3 : Nat) (l4 : Int32) (σ : Sg), K30 l0 l1 l2 l3 l4 σ = some (r, σ') → Mo σ σ') : ∀ (n : Nat) (l0 : Nat) (l1 : Nat) (l2 : Nat) (l3 : Nat) (l4 : Int32) (l5 : Int32) (σ : Sg) (h : DL_law_66 K30 n l0 l1 l2 l3 l4 l5 σ = some (r, σ')), Mo σ σ' := by
  intro n
  induction n with
  | zero => intro l0 l1 l2 l3 l4 l5 σ h; cases h
  | succ n ih =>
    intro l0 l1 l2 l3 l4 l5 σ h
    unfold DL_law_66 at h
    obtain ⟨v1, σ2, k, h⟩ := bnd_s h
    obtain ⟨mσ2a, mσ2b⟩ := umL_coupons k
    by_cases q : v1 ≤ l5
    · rw [if_pos q] at h
      obtain ⟨mz1, mz2⟩ := uL_law_106 hU30 h
      exact ⟨by omega, by omega⟩
    · rw [if_neg q] at h
      obtain ⟨k, h⟩ := chk_s h
      obtain ⟨k, h⟩ := chk_s h
      obtain ⟨v3, σ4, k, h⟩ := bnd_s h
      obtain ⟨mσ4a, mσ4b⟩ := umL_carrier k
      obtain ⟨k, h⟩ := chk_s h
      obtain ⟨σ5, e1, h⟩ := wlet_s h
      have mσ5 : gM σ5 = gM σ4 ∧ gZ σ5 = gZ σ4 := by rw [e1]; exact ⟨rfl, rfl⟩
      obtain ⟨mσ5a, mσ5b⟩ := mσ5
      obtain ⟨k, h⟩ := chk_s h
      obtain ⟨k, h⟩ := chk_s h
      obtain ⟨k, h⟩ := chk_s h
      obtain ⟨σ6, e1, h⟩ := wlet_s h
      have mσ6 : gM σ6 = gM σ5 ∧ gZ σ6 = gZ σ5 := by rw [e1]; exact ⟨rfl, rfl⟩
      obtain ⟨mσ6a, mσ6b⟩ := mσ6
      obtain ⟨mz1, mz2⟩ := ih _ _ _ _ _ _ _ h
      exact ⟨by omega, by omega⟩
theorem tL_law_66 {r : Int32} {σ' : Sg} (C : Cx E p s m args meth c "ProratesLaw" cL_law 13) (hr : meth.sig.returnType = (some .boolean)) (hR : RR R 10 (c0 + (gM σ' - gM σ0)) (z0 + (gZ σ' - gZ σ0))) (hend : ∀ (pc : Nat) (L : List (Option Value)), decode cL_law pc = .ok (.ireturn, 1) → X E p l e R s m args below meth c Q 13 (c0 + (gM σ' - gM σ0)) (z0 + (gZ σ' - gZ σ0)) σ' pc L [.int r]) {K30 : Nat → Nat → Nat → Nat → Int32 → Sg → Option (Int32 × Sg)} (hK30 : ∀ (l0 : Nat) (l1 : Nat) (l2 : Nat) (l3 : Nat) (l4 : Int32) (σ : Sg), Mo σ0 σ → K30 l0 l1 l2 l3 l4 σ = some (r, σ') → X E p l e R s m args below meth c Q 13 (c0 + (gM σ - gM σ0)) (z0 + (gZ σ - gZ σ0)) σ 30 [some (.ref (ad E l0)), some (.ref (ad E l1)), some (.ref (ad E l2)), some (.ref (ad E l3)), some (.int l4), none, none, none, none, none, none, none, none] []) (hU30 : ∀ (l0 : Nat) (l1 : Nat) (l2 : Nat) (l3 : Nat) (l4 : Int32) (σ : Sg), K30 l0 l1 l2 l3 l4 σ = some (r, σ') → Mo σ σ') : ∀ (n : Nat) (l0 : Nat) (l1 : Nat) (l2 : Nat) (l3 : Nat) (l4 : Int32) (l5 : Int32) (σ : Sg) (hm : Mo σ0 σ) (h : DL_law_66 K30 n l0 l1 l2 l3 l4 l5 σ = some (r, σ')), X E p l e R s m args below meth c Q 13 (c0 + (gM σ - gM σ0)) (z0 + (gZ σ - gZ σ0)) σ 66 [some (.ref (ad E l0)), some (.ref (ad E l1)), some (.ref (ad E l2)), some (.ref (ad E l3)), some (.int l4), some (.int l5), none, none, none, none, none, none, none] [] := by
  intro n
  induction n with
  | zero => intro l0 l1 l2 l3 l4 l5 σ hm h; cases h
  | succ n ih =>
    intro l0 l1 l2 l3 l4 l5 σ hm h
    obtain ⟨my1, my2⟩ := uL_law_66 hU30 (n + 1) _ _ _ _ _ _ _ h
    unfold DL_law_66 at h
    obtain ⟨hm1, hm2⟩ := hm
    obtain ⟨hR1, hR2, hR3, hR4⟩ := id hR
    refine x_iload (pc := 66) C dL_law_66 rfl ?_
    refine x_aload_n (pc := 68) C dL_law_68 rfl rfl ?_
    refine x_iload (pc := 69) C dL_law_69 rfl ?_
    obtain ⟨v1, σ2, k, h⟩ := bnd_s h
    obtain ⟨mσ2a, mσ2b⟩ := umL_coupons k
    refine x_callS1 (pc := 71) C (mL_coupons E l k) cL_151 zL_coupons rfl rfl (Nat.le_of_ble_eq_true rfl) ⟨(Nat.le_trans (Nat.le_of_ble_eq_true rfl) hR1), (Nat.le_trans (m := 40 * 10) (Nat.le_of_ble_eq_true rfl) hR2), by omega, by omega⟩ dL_law_71 ?_
    refine x_icmp_ge (pc := 74) (tgt := 106) C dL_law_74 (by decide) (fun q => ?_) (fun q => ?_)
    · rw [if_pos q] at h
      exact x_sub (x_wide (by omega) (by omega) (tL_law_106 C hr hR hend hK30 hU30 ⟨by omega, by omega⟩ h)) (xLe_s (xLe_s (xLe_s (xLe_s (xLe_s (xLe_n (xLe_n (xLe_n (xLe_n (xLe_n (xLe_n (xLe_n (xLe_n xLe_0)))))))))))))
    · rw [if_neg q] at h
      refine x_aload_n (pc := 77) C dL_law_77 rfl rfl ?_
      refine x_iload (pc := 78) C dL_law_78 rfl ?_
      obtain ⟨k, h⟩ := chk_s h
      have k2 := k
      obtain ⟨k, h⟩ := chk_s h
      refine x_daald (pc := 80) C k2 k dL_law_80 ?_
      refine x_iload (pc := 81) C dL_law_81 rfl ?_
      refine x_aload_n (pc := 83) C dL_law_83 rfl rfl ?_
      refine x_iload (pc := 84) C dL_law_84 rfl ?_
      refine x_iload (pc := 86) C dL_law_86 rfl ?_
      obtain ⟨v3, σ4, k, h⟩ := bnd_s h
      obtain ⟨mσ4a, mσ4b⟩ := umL_carrier k
      refine x_callS1 (pc := 88) C (mL_carrier E l k) cL_154 zL_carrier rfl rfl (Nat.le_of_ble_eq_true rfl) ⟨(Nat.le_trans (Nat.le_of_ble_eq_true rfl) hR1), (Nat.le_trans (m := 40 * 10) (Nat.le_of_ble_eq_true rfl) hR2), by omega, by omega⟩ dL_law_88 ?_
      obtain ⟨k, h⟩ := chk_s h
      obtain ⟨σ5, e1, h⟩ := wlet_s h
      have mσ5 : gM σ5 = gM σ4 ∧ gZ σ5 = gZ σ4 := by rw [e1]; exact ⟨rfl, rfl⟩
      obtain ⟨mσ5a, mσ5b⟩ := mσ5
      refine x_diast (pc := 91) C k dL_law_91 (x_eq e1 ?_)
      refine x_aload_n (pc := 92) C dL_law_92 rfl rfl ?_
      refine x_iload (pc := 93) C dL_law_93 rfl ?_
      obtain ⟨k, h⟩ := chk_s h
      have k2 := k
      obtain ⟨k, h⟩ := chk_s h
      refine x_daald (pc := 95) C k2 k dL_law_95 ?_
      refine x_iload (pc := 96) C dL_law_96 rfl ?_
      refine x_iconst (v := -1) (pc := 98) C dL_law_98 (by decide) ?_
      obtain ⟨k, h⟩ := chk_s h
      obtain ⟨σ6, e1, h⟩ := wlet_s h
      have mσ6 : gM σ6 = gM σ5 ∧ gZ σ6 = gZ σ5 := by rw [e1]; exact ⟨rfl, rfl⟩
      obtain ⟨mσ6a, mσ6b⟩ := mσ6
      refine x_diast (pc := 99) C k dL_law_99 (x_eq e1 ?_)
      refine x_iinc (v := 1) (M := [some _, some _, some _, some _, some _, some _, none, none, none, none, none, none, none]) (pc := 100) C dL_law_100 rfl (by decide) (by decide) rfl ?_
      refine x_goto (tgt := 66) (pc := 103) C dL_law_103 (by decide) ?_
      exact x_sub (x_wide (by omega) (by omega) (ih _ _ _ _ _ _ _ ⟨by omega, by omega⟩ h)) (xLe_s (xLe_s (xLe_s (xLe_s (xLe_s (xLe_s (xLe_n (xLe_n (xLe_n (xLe_n (xLe_n (xLe_n (xLe_n xLe_0)))))))))))))
def DL_law_62 (K30 : Nat → Nat → Nat → Nat → Int32 → Sg → Option (Int32 × Sg)) (l0 : Nat) (l1 : Nat) (l2 : Nat) (l3 : Nat) (l4 : Int32) (s0 : Nat) (s1 : Int32) (s2 : Nat) (σ : Sg) : Option (Int32 × Sg) :=
  chk (ckB σ 5 s0 s1) <|
  chk (decide ((gS σ s2).1 = 2) && decide (2000 ≤ s2) && decide (s2 < 2000 + gM σ)) <|
  wlet (pR σ s0 s1.toNatClampNeg s2) fun σ1 =>
  DL_law_66 K30 FU l0 l1 l2 l3 l4 (0 : Int32) σ1
theorem uL_law_62 {r : Int32} {σ' : Sg} {K30 : Nat → Nat → Nat → Nat → Int32 → Sg → Option (Int32 × Sg)} (hU30 : ∀ (l0 : Nat) (l1 : Nat) (l2 : Nat) (l3 : Nat) (l4 : Int32) (σ : Sg), K30 l0 l1 l2 l3 l4 σ = some (r, σ') → Mo σ σ') {l0 : Nat} {l1 : Nat} {l2 : Nat} {l3 : Nat} {l4 : Int32} {s0 : Nat} {s1 : Int32} {s2 : Nat} {σ : Sg} (h : DL_law_62 K30 l0 l1 l2 l3 l4 s0 s1 s2 σ = some (r, σ')) : Mo σ σ' := by
  unfold DL_law_62 at h
  obtain ⟨k, h⟩ := chk_s h
  obtain ⟨k, h⟩ := chk_s h
  obtain ⟨σ1, e1, h⟩ := wlet_s h
  have mσ1 : gM σ1 = gM σ ∧ gZ σ1 = gZ σ := by rw [e1]; exact ⟨rfl, rfl⟩
  obtain ⟨mσ1a, mσ1b⟩ := mσ1
  obtain ⟨mz1, mz2⟩ := uL_law_66 hU30 FU _ _ _ _ _ _ _ h
  exact ⟨by omega, by omega⟩
theorem tL_law_62 {r : Int32} {σ' : Sg} (C : Cx E p s m args meth c "ProratesLaw" cL_law 13) (hr : meth.sig.returnType = (some .boolean)) (hR : RR R 10 (c0 + (gM σ' - gM σ0)) (z0 + (gZ σ' - gZ σ0))) (hend : ∀ (pc : Nat) (L : List (Option Value)), decode cL_law pc = .ok (.ireturn, 1) → X E p l e R s m args below meth c Q 13 (c0 + (gM σ' - gM σ0)) (z0 + (gZ σ' - gZ σ0)) σ' pc L [.int r]) {K30 : Nat → Nat → Nat → Nat → Int32 → Sg → Option (Int32 × Sg)} (hK30 : ∀ (l0 : Nat) (l1 : Nat) (l2 : Nat) (l3 : Nat) (l4 : Int32) (σ : Sg), Mo σ0 σ → K30 l0 l1 l2 l3 l4 σ = some (r, σ') → X E p l e R s m args below meth c Q 13 (c0 + (gM σ - gM σ0)) (z0 + (gZ σ - gZ σ0)) σ 30 [some (.ref (ad E l0)), some (.ref (ad E l1)), some (.ref (ad E l2)), some (.ref (ad E l3)), some (.int l4), none, none, none, none, none, none, none, none] []) (hU30 : ∀ (l0 : Nat) (l1 : Nat) (l2 : Nat) (l3 : Nat) (l4 : Int32) (σ : Sg), K30 l0 l1 l2 l3 l4 σ = some (r, σ') → Mo σ σ') {l0 : Nat} {l1 : Nat} {l2 : Nat} {l3 : Nat} {l4 : Int32} {s0 : Nat} {s1 : Int32} {s2 : Nat} {σ : Sg} (hm : Mo σ0 σ) (h : DL_law_62 K30 l0 l1 l2 l3 l4 s0 s1 s2 σ = some (r, σ')) : X E p l e R s m args below meth c Q 13 (c0 + (gM σ - gM σ0)) (z0 + (gZ σ - gZ σ0)) σ 62 [some (.ref (ad E l0)), some (.ref (ad E l1)), some (.ref (ad E l2)), some (.ref (ad E l3)), some (.int l4), none, none, none, none, none, none, none, none] [.ref (ad E s2), .int s1, .ref (ad E s0)] := by
  obtain ⟨my1, my2⟩ := uL_law_62 hU30 h
  unfold DL_law_62 at h
  obtain ⟨hm1, hm2⟩ := hm
  obtain ⟨hR1, hR2, hR3, hR4⟩ := id hR
  obtain ⟨k, h⟩ := chk_s h
  have k2 := k
  obtain ⟨k, h⟩ := chk_s h
  obtain ⟨σ1, e1, h⟩ := wlet_s h
  have mσ1 : gM σ1 = gM σ ∧ gZ σ1 = gZ σ := by rw [e1]; exact ⟨rfl, rfl⟩
  obtain ⟨mσ1a, mσ1b⟩ := mσ1
  refine x_daast (pc := 62) C k2 k dL_law_62 (x_eq e1 ?_)
  refine x_iconst (v := 0) (pc := 63) C dL_law_63 (by decide) ?_
  refine x_istore (M := [some _, some _, some _, some _, some _, some _, none, none, none, none, none, none, none]) (pc := 64) C dL_law_64 (by decide) rfl ?_
  exact x_sub (x_wide (by omega) (by omega) (tL_law_66 C hr hR hend hK30 hU30 FU _ _ _ _ _ _ _ ⟨by omega, by omega⟩ h)) (xLe_s (xLe_s (xLe_s (xLe_s (xLe_s (xLe_s (xLe_n (xLe_n (xLe_n (xLe_n (xLe_n (xLe_n (xLe_n xLe_0)))))))))))))
def DL_law_50 (K30 : Nat → Nat → Nat → Nat → Int32 → Sg → Option (Int32 × Sg)) (l0 : Nat) (l1 : Nat) (l2 : Nat) (l3 : Nat) (l4 : Int32) (s0 : Nat) (s1 : Int32) (s2 : Nat) (σ : Sg) : Option (Int32 × Sg) :=
  chk (ckB σ 5 s0 s1) <|
  chk (decide ((gS σ s2).1 = 2) && decide (2000 ≤ s2) && decide (s2 < 2000 + gM σ)) <|
  wlet (pR σ s0 s1.toNatClampNeg s2) fun σ1 =>
  bnd (DL_coupons l0 l4 σ1) fun v2 σ3 =>
  chk (ckn v2) <|
  chk (ck51 σ3) <|
  wlet (mkD σ3 2 v2.toNatClampNeg v2.toNatClampNeg) fun σ4 =>
  DL_law_62 K30 l0 l1 l2 l3 l4 l3 l4 (2000 + gM σ3) σ4
theorem uL_law_50 {r : Int32} {σ' : Sg} {K30 : Nat → Nat → Nat → Nat → Int32 → Sg → Option (Int32 × Sg)} (hU30 : ∀ (l0 : Nat) (l1 : Nat) (l2 : Nat) (l3 : Nat) (l4 : Int32) (σ : Sg), K30 l0 l1 l2 l3 l4 σ = some (r, σ') → Mo σ σ') {l0 : Nat} {l1 : Nat} {l2 : Nat} {l3 : Nat} {l4 : Int32} {s0 : Nat} {s1 : Int32} {s2 : Nat} {σ : Sg} (h : DL_law_50 K30 l0 l1 l2 l3 l4 s0 s1 s2 σ = some (r, σ')) : Mo σ σ' := by
  unfold DL_law_50 at h
  obtain ⟨k, h⟩ := chk_s h
  obtain ⟨k, h⟩ := chk_s h
  obtain ⟨σ1, e1, h⟩ := wlet_s h
  have mσ1 : gM σ1 = gM σ ∧ gZ σ1 = gZ σ := by rw [e1]; exact ⟨rfl, rfl⟩
  obtain ⟨mσ1a, mσ1b⟩ := mσ1
  obtain ⟨v2, σ3, k, h⟩ := bnd_s h
  obtain ⟨mσ3a, mσ3b⟩ := umL_coupons k
  obtain ⟨kn, h⟩ := chk_s h
  obtain ⟨k5, h⟩ := chk_s h
  obtain ⟨σ4, e1, h⟩ := wlet_s h
  have mσ4 : gM σ4 = gM σ3 + 1 ∧ gZ σ4 = gZ σ3 + v2.toNatClampNeg := by rw [e1]; exact ⟨rfl, rfl⟩
  obtain ⟨mσ4a, mσ4b⟩ := mσ4
  obtain ⟨mz1, mz2⟩ := uL_law_62 hU30 h
  exact ⟨by omega, by omega⟩
theorem tL_law_50 {r : Int32} {σ' : Sg} (C : Cx E p s m args meth c "ProratesLaw" cL_law 13) (hr : meth.sig.returnType = (some .boolean)) (hR : RR R 10 (c0 + (gM σ' - gM σ0)) (z0 + (gZ σ' - gZ σ0))) (hend : ∀ (pc : Nat) (L : List (Option Value)), decode cL_law pc = .ok (.ireturn, 1) → X E p l e R s m args below meth c Q 13 (c0 + (gM σ' - gM σ0)) (z0 + (gZ σ' - gZ σ0)) σ' pc L [.int r]) {K30 : Nat → Nat → Nat → Nat → Int32 → Sg → Option (Int32 × Sg)} (hK30 : ∀ (l0 : Nat) (l1 : Nat) (l2 : Nat) (l3 : Nat) (l4 : Int32) (σ : Sg), Mo σ0 σ → K30 l0 l1 l2 l3 l4 σ = some (r, σ') → X E p l e R s m args below meth c Q 13 (c0 + (gM σ - gM σ0)) (z0 + (gZ σ - gZ σ0)) σ 30 [some (.ref (ad E l0)), some (.ref (ad E l1)), some (.ref (ad E l2)), some (.ref (ad E l3)), some (.int l4), none, none, none, none, none, none, none, none] []) (hU30 : ∀ (l0 : Nat) (l1 : Nat) (l2 : Nat) (l3 : Nat) (l4 : Int32) (σ : Sg), K30 l0 l1 l2 l3 l4 σ = some (r, σ') → Mo σ σ') {l0 : Nat} {l1 : Nat} {l2 : Nat} {l3 : Nat} {l4 : Int32} {s0 : Nat} {s1 : Int32} {s2 : Nat} {σ : Sg} (hm : Mo σ0 σ) (h : DL_law_50 K30 l0 l1 l2 l3 l4 s0 s1 s2 σ = some (r, σ')) : X E p l e R s m args below meth c Q 13 (c0 + (gM σ - gM σ0)) (z0 + (gZ σ - gZ σ0)) σ 50 [some (.ref (ad E l0)), some (.ref (ad E l1)), some (.ref (ad E l2)), some (.ref (ad E l3)), some (.int l4), none, none, none, none, none, none, none, none] [.ref (ad E s2), .int s1, .ref (ad E s0)] := by
  obtain ⟨my1, my2⟩ := uL_law_50 hU30 h
  unfold DL_law_50 at h
  obtain ⟨hm1, hm2⟩ := hm
  obtain ⟨hR1, hR2, hR3, hR4⟩ := id hR
  obtain ⟨k, h⟩ := chk_s h
  have k2 := k
  obtain ⟨k, h⟩ := chk_s h
  obtain ⟨σ1, e1, h⟩ := wlet_s h
  have mσ1 : gM σ1 = gM σ ∧ gZ σ1 = gZ σ := by rw [e1]; exact ⟨rfl, rfl⟩
  obtain ⟨mσ1a, mσ1b⟩ := mσ1
  refine x_daast (pc := 50) C k2 k dL_law_50 (x_eq e1 ?_)
  refine x_aload_n (pc := 51) C dL_law_51 rfl rfl ?_
  refine x_iload (pc := 52) C dL_law_52 rfl ?_
  refine x_aload_n (pc := 54) C dL_law_54 rfl rfl ?_
  refine x_iload (pc := 55) C dL_law_55 rfl ?_
  obtain ⟨v2, σ3, k, h⟩ := bnd_s h
  obtain ⟨mσ3a, mσ3b⟩ := umL_coupons k
  refine x_callS1 (pc := 57) C (mL_coupons E l k) cL_151 zL_coupons rfl rfl (Nat.le_of_ble_eq_true rfl) ⟨(Nat.le_trans (Nat.le_of_ble_eq_true rfl) hR1), (Nat.le_trans (m := 40 * 10) (Nat.le_of_ble_eq_true rfl) hR2), by omega, by omega⟩ dL_law_57 ?_
  obtain ⟨kn, h⟩ := chk_s h
  obtain ⟨k5, h⟩ := chk_s h
  obtain ⟨σ4, e1, h⟩ := wlet_s h
  have mσ4 : gM σ4 = gM σ3 + 1 ∧ gZ σ4 = gZ σ3 + v2.toNatClampNeg := by rw [e1]; exact ⟨rfl, rfl⟩
  obtain ⟨mσ4a, mσ4b⟩ := mσ4
  obtain ⟨mz1, mz2⟩ := uL_law_62 hU30 h
  refine x_dnewI (pc := 60) C aaI kn k5 ⟨by omega, by omega⟩ dL_law_60 (x_eq e1 ?_)
  exact x_sub (x_wide (by omega) (by omega) (tL_law_62 C hr hR hend hK30 hU30 ⟨by omega, by omega⟩ h)) (xLe_s (xLe_s (xLe_s (xLe_s (xLe_s (xLe_n (xLe_n (xLe_n (xLe_n (xLe_n (xLe_n (xLe_n (xLe_n xLe_0)))))))))))))
def DL_law_169 (σ : Sg) : Option (Int32 × Sg) :=
  some ((0 : Int32), σ)
theorem uL_law_169 {r : Int32} {σ' : Sg} {σ : Sg} (h : DL_law_169  σ = some (r, σ')) : Mo σ σ' := by
  unfold DL_law_169 at h
  cases h
  exact ⟨by omega, by omega⟩
theorem tL_law_169 {r : Int32} {σ' : Sg} (C : Cx E p s m args meth c "ProratesLaw" cL_law 13) (hr : meth.sig.returnType = (some .boolean)) (hR : RR R 10 (c0 + (gM σ' - gM σ0)) (z0 + (gZ σ' - gZ σ0))) (hend : ∀ (pc : Nat) (L : List (Option Value)), decode cL_law pc = .ok (.ireturn, 1) → X E p l e R s m args below meth c Q 13 (c0 + (gM σ' - gM σ0)) (z0 + (gZ σ' - gZ σ0)) σ' pc L [.int r]) {σ : Sg} (hm : Mo σ0 σ) (h : DL_law_169  σ = some (r, σ')) : X E p l e R s m args below meth c Q 13 (c0 + (gM σ - gM σ0)) (z0 + (gZ σ - gZ σ0)) σ 169 [none, none, none, none, none, none, none, none, none, none, none, none, none] [] := by
  obtain ⟨my1, my2⟩ := uL_law_169 h
  unfold DL_law_169 at h
  obtain ⟨hm1, hm2⟩ := hm
  obtain ⟨hR1, hR2, hR3, hR4⟩ := id hR
  refine x_iconst (v := 0) (pc := 169) C dL_law_169 (by decide) ?_
  cases h
  exact x_wide (by omega) (by omega) (hend _ _ dL_law_170)
def DL_law_348 (σ : Sg) : Option (Int32 × Sg) :=
  some ((0 : Int32), σ)
theorem uL_law_348 {r : Int32} {σ' : Sg} {σ : Sg} (h : DL_law_348  σ = some (r, σ')) : Mo σ σ' := by
  unfold DL_law_348 at h
  cases h
  exact ⟨by omega, by omega⟩
theorem tL_law_348 {r : Int32} {σ' : Sg} (C : Cx E p s m args meth c "ProratesLaw" cL_law 13) (hr : meth.sig.returnType = (some .boolean)) (hR : RR R 10 (c0 + (gM σ' - gM σ0)) (z0 + (gZ σ' - gZ σ0))) (hend : ∀ (pc : Nat) (L : List (Option Value)), decode cL_law pc = .ok (.ireturn, 1) → X E p l e R s m args below meth c Q 13 (c0 + (gM σ' - gM σ0)) (z0 + (gZ σ' - gZ σ0)) σ' pc L [.int r]) {σ : Sg} (hm : Mo σ0 σ) (h : DL_law_348  σ = some (r, σ')) : X E p l e R s m args below meth c Q 13 (c0 + (gM σ - gM σ0)) (z0 + (gZ σ - gZ σ0)) σ 348 [none, none, none, none, none, none, none, none, none, none, none, none, none] [] := by
  obtain ⟨my1, my2⟩ := uL_law_348 h
  unfold DL_law_348 at h
  obtain ⟨hm1, hm2⟩ := hm
  obtain ⟨hR1, hR2, hR3, hR4⟩ := id hR
  refine x_iconst (v := 0) (pc := 348) C dL_law_348 (by decide) ?_
  cases h
  exact x_wide (by omega) (by omega) (hend _ _ dL_law_349)
def DL_law_431 (σ : Sg) : Option (Int32 × Sg) :=
  some ((0 : Int32), σ)
theorem uL_law_431 {r : Int32} {σ' : Sg} {σ : Sg} (h : DL_law_431  σ = some (r, σ')) : Mo σ σ' := by
  unfold DL_law_431 at h
  cases h
  exact ⟨by omega, by omega⟩
theorem tL_law_431 {r : Int32} {σ' : Sg} (C : Cx E p s m args meth c "ProratesLaw" cL_law 13) (hr : meth.sig.returnType = (some .boolean)) (hR : RR R 10 (c0 + (gM σ' - gM σ0)) (z0 + (gZ σ' - gZ σ0))) (hend : ∀ (pc : Nat) (L : List (Option Value)), decode cL_law pc = .ok (.ireturn, 1) → X E p l e R s m args below meth c Q 13 (c0 + (gM σ' - gM σ0)) (z0 + (gZ σ' - gZ σ0)) σ' pc L [.int r]) {σ : Sg} (hm : Mo σ0 σ) (h : DL_law_431  σ = some (r, σ')) : X E p l e R s m args below meth c Q 13 (c0 + (gM σ - gM σ0)) (z0 + (gZ σ - gZ σ0)) σ 431 [none, none, none, none, none, none, none, none, none, none, none, none, none] [] := by
  obtain ⟨my1, my2⟩ := uL_law_431 h
  unfold DL_law_431 at h
  obtain ⟨hm1, hm2⟩ := hm
  obtain ⟨hR1, hR2, hR3, hR4⟩ := id hR
  refine x_iconst (v := 0) (pc := 431) C dL_law_431 (by decide) ?_
  cases h
  exact x_wide (by omega) (by omega) (hend _ _ dL_law_432)
def DL_law_459 (K115 : Nat → Nat → Nat → Nat → Int32 → Sg → Option (Int32 × Sg)) (K125 : Nat → Nat → Nat → Nat → Int32 → Int32 → Sg → Option (Int32 × Sg)) (K359 : Nat → Nat → Nat → Nat → Int32 → Int32 → Nat → Int32 → Sg → Option (Int32 × Sg)) (K399 : Nat → Nat → Nat → Nat → Int32 → Int32 → Nat → Int32 → Nat → Int32 → Int32 → Sg → Option (Int32 × Sg)) (l0 : Nat) (l1 : Nat) (l2 : Nat) (l3 : Nat) (l4 : Int32) (l5 : Int32) (l6 : Nat) (l9 : Int32) (l10 : Nat) (l12 : Int32) (s0 : Int32) (s1 : Int32) (σ : Sg) : Option (Int32 × Sg) :=
  K399 l0 l1 l2 l3 l4 l5 l6 l9 l10 (s0 ||| s1) (l12 + (1 : Int32)) σ
theorem uL_law_459 {r : Int32} {σ' : Sg} {K115 : Nat → Nat → Nat → Nat → Int32 → Sg → Option (Int32 × Sg)} (hU115 : ∀ (l0 : Nat) (l1 : Nat) (l2 : Nat) (l3 : Nat) (l4 : Int32) (σ : Sg), K115 l0 l1 l2 l3 l4 σ = some (r, σ') → Mo σ σ') {K125 : Nat → Nat → Nat → Nat → Int32 → Int32 → Sg → Option (Int32 × Sg)} (hU125 : ∀ (l0 : Nat) (l1 : Nat) (l2 : Nat) (l3 : Nat) (l4 : Int32) (l5 : Int32) (σ : Sg), K125 l0 l1 l2 l3 l4 l5 σ = some (r, σ') → Mo σ σ') {K359 : Nat → Nat → Nat → Nat → Int32 → Int32 → Nat → Int32 → Sg → Option (Int32 × Sg)} (hU359 : ∀ (l0 : Nat) (l1 : Nat) (l2 : Nat) (l3 : Nat) (l4 : Int32) (l5 : Int32) (l6 : Nat) (l9 : Int32) (σ : Sg), K359 l0 l1 l2 l3 l4 l5 l6 l9 σ = some (r, σ') → Mo σ σ') {K399 : Nat → Nat → Nat → Nat → Int32 → Int32 → Nat → Int32 → Nat → Int32 → Int32 → Sg → Option (Int32 × Sg)} (hU399 : ∀ (l0 : Nat) (l1 : Nat) (l2 : Nat) (l3 : Nat) (l4 : Int32) (l5 : Int32) (l6 : Nat) (l9 : Int32) (l10 : Nat) (l11 : Int32) (l12 : Int32) (σ : Sg), K399 l0 l1 l2 l3 l4 l5 l6 l9 l10 l11 l12 σ = some (r, σ') → Mo σ σ') {l0 : Nat} {l1 : Nat} {l2 : Nat} {l3 : Nat} {l4 : Int32} {l5 : Int32} {l6 : Nat} {l9 : Int32} {l10 : Nat} {l12 : Int32} {s0 : Int32} {s1 : Int32} {σ : Sg} (h : DL_law_459 K115 K125 K359 K399 l0 l1 l2 l3 l4 l5 l6 l9 l10 l12 s0 s1 σ = some (r, σ')) : Mo σ σ' := by
  unfold DL_law_459 at h
  obtain ⟨mz1, mz2⟩ := hU399 _ _ _ _ _ _ _ _ _ _ _ _ h
  exact ⟨by omega, by omega⟩
theorem tL_law_459 {r : Int32} {σ' : Sg} (C : Cx E p s m args meth c "ProratesLaw" cL_law 13) (hr : meth.sig.returnType = (some .boolean)) (hR : RR R 10 (c0 + (gM σ' - gM σ0)) (z0 + (gZ σ' - gZ σ0))) (hend : ∀ (pc : Nat) (L : List (Option Value)), decode cL_law pc = .ok (.ireturn, 1) → X E p l e R s m args below meth c Q 13 (c0 + (gM σ' - gM σ0)) (z0 + (gZ σ' - gZ σ0)) σ' pc L [.int r]) {K115 : Nat → Nat → Nat → Nat → Int32 → Sg → Option (Int32 × Sg)} (hK115 : ∀ (l0 : Nat) (l1 : Nat) (l2 : Nat) (l3 : Nat) (l4 : Int32) (σ : Sg), Mo σ0 σ → K115 l0 l1 l2 l3 l4 σ = some (r, σ') → X E p l e R s m args below meth c Q 13 (c0 + (gM σ - gM σ0)) (z0 + (gZ σ - gZ σ0)) σ 115 [some (.ref (ad E l0)), some (.ref (ad E l1)), some (.ref (ad E l2)), some (.ref (ad E l3)), some (.int l4), none, none, none, none, none, none, none, none] []) (hU115 : ∀ (l0 : Nat) (l1 : Nat) (l2 : Nat) (l3 : Nat) (l4 : Int32) (σ : Sg), K115 l0 l1 l2 l3 l4 σ = some (r, σ') → Mo σ σ') {K125 : Nat → Nat → Nat → Nat → Int32 → Int32 → Sg → Option (Int32 × Sg)} (hK125 : ∀ (l0 : Nat) (l1 : Nat) (l2 : Nat) (l3 : Nat) (l4 : Int32) (l5 : Int32) (σ : Sg), Mo σ0 σ → K125 l0 l1 l2 l3 l4 l5 σ = some (r, σ') → X E p l e R s m args below meth c Q 13 (c0 + (gM σ - gM σ0)) (z0 + (gZ σ - gZ σ0)) σ 125 [some (.ref (ad E l0)), some (.ref (ad E l1)), some (.ref (ad E l2)), some (.ref (ad E l3)), some (.int l4), some (.int l5), none, none, none, none, none, none, none] []) (hU125 : ∀ (l0 : Nat) (l1 : Nat) (l2 : Nat) (l3 : Nat) (l4 : Int32) (l5 : Int32) (σ : Sg), K125 l0 l1 l2 l3 l4 l5 σ = some (r, σ') → Mo σ σ') {K359 : Nat → Nat → Nat → Nat → Int32 → Int32 → Nat → Int32 → Sg → Option (Int32 × Sg)} (hK359 : ∀ (l0 : Nat) (l1 : Nat) (l2 : Nat) (l3 : Nat) (l4 : Int32) (l5 : Int32) (l6 : Nat) (l9 : Int32) (σ : Sg), Mo σ0 σ → K359 l0 l1 l2 l3 l4 l5 l6 l9 σ = some (r, σ') → X E p l e R s m args below meth c Q 13 (c0 + (gM σ - gM σ0)) (z0 + (gZ σ - gZ σ0)) σ 359 [some (.ref (ad E l0)), some (.ref (ad E l1)), some (.ref (ad E l2)), some (.ref (ad E l3)), some (.int l4), some (.int l5), some (.ref (ad E l6)), none, none, some (.int l9), none, none, none] []) (hU359 : ∀ (l0 : Nat) (l1 : Nat) (l2 : Nat) (l3 : Nat) (l4 : Int32) (l5 : Int32) (l6 : Nat) (l9 : Int32) (σ : Sg), K359 l0 l1 l2 l3 l4 l5 l6 l9 σ = some (r, σ') → Mo σ σ') {K399 : Nat → Nat → Nat → Nat → Int32 → Int32 → Nat → Int32 → Nat → Int32 → Int32 → Sg → Option (Int32 × Sg)} (hK399 : ∀ (l0 : Nat) (l1 : Nat) (l2 : Nat) (l3 : Nat) (l4 : Int32) (l5 : Int32) (l6 : Nat) (l9 : Int32) (l10 : Nat) (l11 : Int32) (l12 : Int32) (σ : Sg), Mo σ0 σ → K399 l0 l1 l2 l3 l4 l5 l6 l9 l10 l11 l12 σ = some (r, σ') → X E p l e R s m args below meth c Q 13 (c0 + (gM σ - gM σ0)) (z0 + (gZ σ - gZ σ0)) σ 399 [some (.ref (ad E l0)), some (.ref (ad E l1)), some (.ref (ad E l2)), some (.ref (ad E l3)), some (.int l4), some (.int l5), some (.ref (ad E l6)), none, none, some (.int l9), some (.ref (ad E l10)), some (.int l11), some (.int l12)] []) (hU399 : ∀ (l0 : Nat) (l1 : Nat) (l2 : Nat) (l3 : Nat) (l4 : Int32) (l5 : Int32) (l6 : Nat) (l9 : Int32) (l10 : Nat) (l11 : Int32) (l12 : Int32) (σ : Sg), K399 l0 l1 l2 l3 l4 l5 l6 l9 l10 l11 l12 σ = some (r, σ') → Mo σ σ') {l0 : Nat} {l1 : Nat} {l2 : Nat} {l3 : Nat} {l4 : Int32} {l5 : Int32} {l6 : Nat} {l9 : Int32} {l10 : Nat} {l12 : Int32} {s0 : Int32} {s1 : Int32} {σ : Sg} (hm : Mo σ0 σ) (h : DL_law_459 K115 K125 K359 K399 l0 l1 l2 l3 l4 l5 l6 l9 l10 l12 s0 s1 σ = some (r, σ')) : X E p l e R s m args below meth c Q 13 (c0 + (gM σ - gM σ0)) (z0 + (gZ σ - gZ σ0)) σ 459 [some (.ref (ad E l0)), some (.ref (ad E l1)), some (.ref (ad E l2)), some (.ref (ad E l3)), some (.int l4), some (.int l5), some (.ref (ad E l6)), none, none, some (.int l9), some (.ref (ad E l10)), none, some (.int l12)] [.int s1, .int s0] := by
  obtain ⟨my1, my2⟩ := uL_law_459 hU115 hU125 hU359 hU399 h
  unfold DL_law_459 at h
  obtain ⟨hm1, hm2⟩ := hm
  obtain ⟨hR1, hR2, hR3, hR4⟩ := id hR
  refine x_ior (pc := 459) C dL_law_459 ?_
  refine x_istore (M := [some _, some _, some _, some _, some _, some _, some _, none, none, some _, some _, some _, some _]) (pc := 460) C dL_law_460 (by decide) rfl ?_
  refine x_iinc (v := 1) (M := [some _, some _, some _, some _, some _, some _, some _, none, none, some _, some _, some _, some _]) (pc := 462) C dL_law_462 rfl (by decide) (by decide) rfl ?_
  refine x_goto (tgt := 399) (pc := 465) C dL_law_465 (by decide) ?_
  exact x_sub (x_wide (by omega) (by omega) (hK399 _ _ _ _ _ _ _ _ _ _ _ _ ⟨by omega, by omega⟩ h)) (xLe_s (xLe_s (xLe_s (xLe_s (xLe_s (xLe_s (xLe_s (xLe_n (xLe_n (xLe_s (xLe_s (xLe_s (xLe_s xLe_0)))))))))))))
def DL_law_492 (σ : Sg) : Option (Int32 × Sg) :=
  some ((0 : Int32), σ)
theorem uL_law_492 {r : Int32} {σ' : Sg} {σ : Sg} (h : DL_law_492  σ = some (r, σ')) : Mo σ σ' := by
  unfold DL_law_492 at h
  cases h
  exact ⟨by omega, by omega⟩
theorem tL_law_492 {r : Int32} {σ' : Sg} (C : Cx E p s m args meth c "ProratesLaw" cL_law 13) (hr : meth.sig.returnType = (some .boolean)) (hR : RR R 10 (c0 + (gM σ' - gM σ0)) (z0 + (gZ σ' - gZ σ0))) (hend : ∀ (pc : Nat) (L : List (Option Value)), decode cL_law pc = .ok (.ireturn, 1) → X E p l e R s m args below meth c Q 13 (c0 + (gM σ' - gM σ0)) (z0 + (gZ σ' - gZ σ0)) σ' pc L [.int r]) {σ : Sg} (hm : Mo σ0 σ) (h : DL_law_492  σ = some (r, σ')) : X E p l e R s m args below meth c Q 13 (c0 + (gM σ - gM σ0)) (z0 + (gZ σ - gZ σ0)) σ 492 [none, none, none, none, none, none, none, none, none, none, none, none, none] [] := by
  obtain ⟨my1, my2⟩ := uL_law_492 h
  unfold DL_law_492 at h
  obtain ⟨hm1, hm2⟩ := hm
  obtain ⟨hR1, hR2, hR3, hR4⟩ := id hR
  refine x_iconst (v := 0) (pc := 492) C dL_law_492 (by decide) ?_
  cases h
  exact x_wide (by omega) (by omega) (hend _ _ dL_law_493)
def DL_law_489 (K115 : Nat → Nat → Nat → Nat → Int32 → Sg → Option (Int32 × Sg)) (K125 : Nat → Nat → Nat → Nat → Int32 → Int32 → Sg → Option (Int32 × Sg)) (K359 : Nat → Nat → Nat → Nat → Int32 → Int32 → Nat → Int32 → Sg → Option (Int32 × Sg)) (l0 : Nat) (l1 : Nat) (l2 : Nat) (l3 : Nat) (l4 : Int32) (l5 : Int32) (l6 : Nat) (l9 : Int32) (s0 : Int32) (s1 : Int32) (σ : Sg) : Option (Int32 × Sg) :=
  if s0 = s1 then
    K359 l0 l1 l2 l3 l4 l5 l6 (l9 + (1 : Int32)) σ
  else
    DL_law_492 σ
theorem uL_law_489 {r : Int32} {σ' : Sg} {K115 : Nat → Nat → Nat → Nat → Int32 → Sg → Option (Int32 × Sg)} (hU115 : ∀ (l0 : Nat) (l1 : Nat) (l2 : Nat) (l3 : Nat) (l4 : Int32) (σ : Sg), K115 l0 l1 l2 l3 l4 σ = some (r, σ') → Mo σ σ') {K125 : Nat → Nat → Nat → Nat → Int32 → Int32 → Sg → Option (Int32 × Sg)} (hU125 : ∀ (l0 : Nat) (l1 : Nat) (l2 : Nat) (l3 : Nat) (l4 : Int32) (l5 : Int32) (σ : Sg), K125 l0 l1 l2 l3 l4 l5 σ = some (r, σ') → Mo σ σ') {K359 : Nat → Nat → Nat → Nat → Int32 → Int32 → Nat → Int32 → Sg → Option (Int32 × Sg)} (hU359 : ∀ (l0 : Nat) (l1 : Nat) (l2 : Nat) (l3 : Nat) (l4 : Int32) (l5 : Int32) (l6 : Nat) (l9 : Int32) (σ : Sg), K359 l0 l1 l2 l3 l4 l5 l6 l9 σ = some (r, σ') → Mo σ σ') {l0 : Nat} {l1 : Nat} {l2 : Nat} {l3 : Nat} {l4 : Int32} {l5 : Int32} {l6 : Nat} {l9 : Int32} {s0 : Int32} {s1 : Int32} {σ : Sg} (h : DL_law_489 K115 K125 K359 l0 l1 l2 l3 l4 l5 l6 l9 s0 s1 σ = some (r, σ')) : Mo σ σ' := by
  unfold DL_law_489 at h
  by_cases q : s0 = s1
  · rw [if_pos q] at h
    obtain ⟨mz1, mz2⟩ := hU359 _ _ _ _ _ _ _ _ _ h
    exact ⟨by omega, by omega⟩
  · rw [if_neg q] at h
    obtain ⟨mz1, mz2⟩ := uL_law_492 h
    exact ⟨by omega, by omega⟩
theorem tL_law_489 {r : Int32} {σ' : Sg} (C : Cx E p s m args meth c "ProratesLaw" cL_law 13) (hr : meth.sig.returnType = (some .boolean)) (hR : RR R 10 (c0 + (gM σ' - gM σ0)) (z0 + (gZ σ' - gZ σ0))) (hend : ∀ (pc : Nat) (L : List (Option Value)), decode cL_law pc = .ok (.ireturn, 1) → X E p l e R s m args below meth c Q 13 (c0 + (gM σ' - gM σ0)) (z0 + (gZ σ' - gZ σ0)) σ' pc L [.int r]) {K115 : Nat → Nat → Nat → Nat → Int32 → Sg → Option (Int32 × Sg)} (hK115 : ∀ (l0 : Nat) (l1 : Nat) (l2 : Nat) (l3 : Nat) (l4 : Int32) (σ : Sg), Mo σ0 σ → K115 l0 l1 l2 l3 l4 σ = some (r, σ') → X E p l e R s m args below meth c Q 13 (c0 + (gM σ - gM σ0)) (z0 + (gZ σ - gZ σ0)) σ 115 [some (.ref (ad E l0)), some (.ref (ad E l1)), some (.ref (ad E l2)), some (.ref (ad E l3)), some (.int l4), none, none, none, none, none, none, none, none] []) (hU115 : ∀ (l0 : Nat) (l1 : Nat) (l2 : Nat) (l3 : Nat) (l4 : Int32) (σ : Sg), K115 l0 l1 l2 l3 l4 σ = some (r, σ') → Mo σ σ') {K125 : Nat → Nat → Nat → Nat → Int32 → Int32 → Sg → Option (Int32 × Sg)} (hK125 : ∀ (l0 : Nat) (l1 : Nat) (l2 : Nat) (l3 : Nat) (l4 : Int32) (l5 : Int32) (σ : Sg), Mo σ0 σ → K125 l0 l1 l2 l3 l4 l5 σ = some (r, σ') → X E p l e R s m args below meth c Q 13 (c0 + (gM σ - gM σ0)) (z0 + (gZ σ - gZ σ0)) σ 125 [some (.ref (ad E l0)), some (.ref (ad E l1)), some (.ref (ad E l2)), some (.ref (ad E l3)), some (.int l4), some (.int l5), none, none, none, none, none, none, none] []) (hU125 : ∀ (l0 : Nat) (l1 : Nat) (l2 : Nat) (l3 : Nat) (l4 : Int32) (l5 : Int32) (σ : Sg), K125 l0 l1 l2 l3 l4 l5 σ = some (r, σ') → Mo σ σ') {K359 : Nat → Nat → Nat → Nat → Int32 → Int32 → Nat → Int32 → Sg → Option (Int32 × Sg)} (hK359 : ∀ (l0 : Nat) (l1 : Nat) (l2 : Nat) (l3 : Nat) (l4 : Int32) (l5 : Int32) (l6 : Nat) (l9 : Int32) (σ : Sg), Mo σ0 σ → K359 l0 l1 l2 l3 l4 l5 l6 l9 σ = some (r, σ') → X E p l e R s m args below meth c Q 13 (c0 + (gM σ - gM σ0)) (z0 + (gZ σ - gZ σ0)) σ 359 [some (.ref (ad E l0)), some (.ref (ad E l1)), some (.ref (ad E l2)), some (.ref (ad E l3)), some (.int l4), some (.int l5), some (.ref (ad E l6)), none, none, some (.int l9), none, none, none] []) (hU359 : ∀ (l0 : Nat) (l1 : Nat) (l2 : Nat) (l3 : Nat) (l4 : Int32) (l5 : Int32) (l6 : Nat) (l9 : Int32) (σ : Sg), K359 l0 l1 l2 l3 l4 l5 l6 l9 σ = some (r, σ') → Mo σ σ') {l0 : Nat} {l1 : Nat} {l2 : Nat} {l3 : Nat} {l4 : Int32} {l5 : Int32} {l6 : Nat} {l9 : Int32} {s0 : Int32} {s1 : Int32} {σ : Sg} (hm : Mo σ0 σ) (h : DL_law_489 K115 K125 K359 l0 l1 l2 l3 l4 l5 l6 l9 s0 s1 σ = some (r, σ')) : X E p l e R s m args below meth c Q 13 (c0 + (gM σ - gM σ0)) (z0 + (gZ σ - gZ σ0)) σ 489 [some (.ref (ad E l0)), some (.ref (ad E l1)), some (.ref (ad E l2)), some (.ref (ad E l3)), some (.int l4), some (.int l5), some (.ref (ad E l6)), none, none, some (.int l9), none, none, none] [.int s1, .int s0] := by
  obtain ⟨my1, my2⟩ := uL_law_489 hU115 hU125 hU359 h
  unfold DL_law_489 at h
  obtain ⟨hm1, hm2⟩ := hm
  obtain ⟨hR1, hR2, hR3, hR4⟩ := id hR
  refine x_icmp_eq (pc := 489) (tgt := 494) C dL_law_489 (by decide) (fun q => ?_) (fun q => ?_)
  · rw [if_pos q] at h
    refine x_iinc (v := 1) (M := [some _, some _, some _, some _, some _, some _, some _, none, none, some _, none, none, none]) (pc := 494) C dL_law_494 rfl (by decide) (by decide) rfl ?_
    refine x_goto (tgt := 359) (pc := 497) C dL_law_497 (by decide) ?_
    exact x_sub (x_wide (by omega) (by omega) (hK359 _ _ _ _ _ _ _ _ _ ⟨by omega, by omega⟩ h)) (xLe_s (xLe_s (xLe_s (xLe_s (xLe_s (xLe_s (xLe_s (xLe_n (xLe_n (xLe_s (xLe_n (xLe_n (xLe_n xLe_0)))))))))))))
  · rw [if_neg q] at h
    exact x_sub (x_wide (by omega) (by omega) (tL_law_492 C hr hR hend ⟨by omega, by omega⟩ h)) (xLe_n (xLe_n (xLe_n (xLe_n (xLe_n (xLe_n (xLe_n (xLe_n (xLe_n (xLe_n (xLe_n (xLe_n (xLe_n xLe_0)))))))))))))
def DL_law_468 (K115 : Nat → Nat → Nat → Nat → Int32 → Sg → Option (Int32 × Sg)) (K125 : Nat → Nat → Nat → Nat → Int32 → Int32 → Sg → Option (Int32 × Sg)) (K359 : Nat → Nat → Nat → Nat → Int32 → Int32 → Nat → Int32 → Sg → Option (Int32 × Sg)) (l0 : Nat) (l1 : Nat) (l2 : Nat) (l3 : Nat) (l4 : Int32) (l5 : Int32) (l6 : Nat) (l9 : Int32) (l11 : Int32) (σ : Sg) : Option (Int32 × Sg) :=
  chk (ckO σ 5 l1) <|
  bnd (DX7_matters l1 l9 σ) fun v1 σ2 =>
  chk (ckT2 σ σ2) <|
  if l11 = 0 then
    DL_law_489 K115 K125 K359 l0 l1 l2 l3 l4 l5 l6 l9 ((v1 >>> (l5 &&& 31)) &&& (1 : Int32)) (0 : Int32) σ2
  else
    DL_law_489 K115 K125 K359 l0 l1 l2 l3 l4 l5 l6 l9 ((v1 >>> (l5 &&& 31)) &&& (1 : Int32)) (1 : Int32) σ2
theorem uL_law_468 {r : Int32} {σ' : Sg} {K115 : Nat → Nat → Nat → Nat → Int32 → Sg → Option (Int32 × Sg)} (hU115 : ∀ (l0 : Nat) (l1 : Nat) (l2 : Nat) (l3 : Nat) (l4 : Int32) (σ : Sg), K115 l0 l1 l2 l3 l4 σ = some (r, σ') → Mo σ σ') {K125 : Nat → Nat → Nat → Nat → Int32 → Int32 → Sg → Option (Int32 × Sg)} (hU125 : ∀ (l0 : Nat) (l1 : Nat) (l2 : Nat) (l3 : Nat) (l4 : Int32) (l5 : Int32) (σ : Sg), K125 l0 l1 l2 l3 l4 l5 σ = some (r, σ') → Mo σ σ') {K359 : Nat → Nat → Nat → Nat → Int32 → Int32 → Nat → Int32 → Sg → Option (Int32 × Sg)} (hU359 : ∀ (l0 : Nat) (l1 : Nat) (l2 : Nat) (l3 : Nat) (l4 : Int32) (l5 : Int32) (l6 : Nat) (l9 : Int32) (σ : Sg), K359 l0 l1 l2 l3 l4 l5 l6 l9 σ = some (r, σ') → Mo σ σ') {l0 : Nat} {l1 : Nat} {l2 : Nat} {l3 : Nat} {l4 : Int32} {l5 : Int32} {l6 : Nat} {l9 : Int32} {l11 : Int32} {σ : Sg} (h : DL_law_468 K115 K125 K359 l0 l1 l2 l3 l4 l5 l6 l9 l11 σ = some (r, σ')) : Mo σ σ' := by
  unfold DL_law_468 at h
  obtain ⟨k, h⟩ := chk_s h
  obtain ⟨v1, σ2, k, h⟩ := bnd_s h
  obtain ⟨kt, h⟩ := chk_s h
  obtain ⟨mσ2a, mσ2b⟩ := ckT2_s kt
  by_cases q : l11 = 0
  · rw [if_pos q] at h
    obtain ⟨mz1, mz2⟩ := uL_law_489 hU115 hU125 hU359 h
    exact ⟨by omega, by omega⟩
  · rw [if_neg q] at h
    obtain ⟨mz1, mz2⟩ := uL_law_489 hU115 hU125 hU359 h
    exact ⟨by omega, by omega⟩
theorem tL_law_468 {r : Int32} {σ' : Sg} (C : Cx E p s m args meth c "ProratesLaw" cL_law 13) (hr : meth.sig.returnType = (some .boolean)) (hR : RR R 10 (c0 + (gM σ' - gM σ0)) (z0 + (gZ σ' - gZ σ0))) (hend : ∀ (pc : Nat) (L : List (Option Value)), decode cL_law pc = .ok (.ireturn, 1) → X E p l e R s m args below meth c Q 13 (c0 + (gM σ' - gM σ0)) (z0 + (gZ σ' - gZ σ0)) σ' pc L [.int r]) {K115 : Nat → Nat → Nat → Nat → Int32 → Sg → Option (Int32 × Sg)} (hK115 : ∀ (l0 : Nat) (l1 : Nat) (l2 : Nat) (l3 : Nat) (l4 : Int32) (σ : Sg), Mo σ0 σ → K115 l0 l1 l2 l3 l4 σ = some (r, σ') → X E p l e R s m args below meth c Q 13 (c0 + (gM σ - gM σ0)) (z0 + (gZ σ - gZ σ0)) σ 115 [some (.ref (ad E l0)), some (.ref (ad E l1)), some (.ref (ad E l2)), some (.ref (ad E l3)), some (.int l4), none, none, none, none, none, none, none, none] []) (hU115 : ∀ (l0 : Nat) (l1 : Nat) (l2 : Nat) (l3 : Nat) (l4 : Int32) (σ : Sg), K115 l0 l1 l2 l3 l4 σ = some (r, σ') → Mo σ σ') {K125 : Nat → Nat → Nat → Nat → Int32 → Int32 → Sg → Option (Int32 × Sg)} (hK125 : ∀ (l0 : Nat) (l1 : Nat) (l2 : Nat) (l3 : Nat) (l4 : Int32) (l5 : Int32) (σ : Sg), Mo σ0 σ → K125 l0 l1 l2 l3 l4 l5 σ = some (r, σ') → X E p l e R s m args below meth c Q 13 (c0 + (gM σ - gM σ0)) (z0 + (gZ σ - gZ σ0)) σ 125 [some (.ref (ad E l0)), some (.ref (ad E l1)), some (.ref (ad E l2)), some (.ref (ad E l3)), some (.int l4), some (.int l5), none, none, none, none, none, none, none] []) (hU125 : ∀ (l0 : Nat) (l1 : Nat) (l2 : Nat) (l3 : Nat) (l4 : Int32) (l5 : Int32) (σ : Sg), K125 l0 l1 l2 l3 l4 l5 σ = some (r, σ') → Mo σ σ') {K359 : Nat → Nat → Nat → Nat → Int32 → Int32 → Nat → Int32 → Sg → Option (Int32 × Sg)} (hK359 : ∀ (l0 : Nat) (l1 : Nat) (l2 : Nat) (l3 : Nat) (l4 : Int32) (l5 : Int32) (l6 : Nat) (l9 : Int32) (σ : Sg), Mo σ0 σ → K359 l0 l1 l2 l3 l4 l5 l6 l9 σ = some (r, σ') → X E p l e R s m args below meth c Q 13 (c0 + (gM σ - gM σ0)) (z0 + (gZ σ - gZ σ0)) σ 359 [some (.ref (ad E l0)), some (.ref (ad E l1)), some (.ref (ad E l2)), some (.ref (ad E l3)), some (.int l4), some (.int l5), some (.ref (ad E l6)), none, none, some (.int l9), none, none, none] []) (hU359 : ∀ (l0 : Nat) (l1 : Nat) (l2 : Nat) (l3 : Nat) (l4 : Int32) (l5 : Int32) (l6 : Nat) (l9 : Int32) (σ : Sg), K359 l0 l1 l2 l3 l4 l5 l6 l9 σ = some (r, σ') → Mo σ σ') {l0 : Nat} {l1 : Nat} {l2 : Nat} {l3 : Nat} {l4 : Int32} {l5 : Int32} {l6 : Nat} {l9 : Int32} {l11 : Int32} {σ : Sg} (hm : Mo σ0 σ) (h : DL_law_468 K115 K125 K359 l0 l1 l2 l3 l4 l5 l6 l9 l11 σ = some (r, σ')) : X E p l e R s m args below meth c Q 13 (c0 + (gM σ - gM σ0)) (z0 + (gZ σ - gZ σ0)) σ 468 [some (.ref (ad E l0)), some (.ref (ad E l1)), some (.ref (ad E l2)), some (.ref (ad E l3)), some (.int l4), some (.int l5), some (.ref (ad E l6)), none, none, some (.int l9), none, some (.int l11), none] [] := by
  obtain ⟨my1, my2⟩ := uL_law_468 hU115 hU125 hU359 h
  unfold DL_law_468 at h
  obtain ⟨hm1, hm2⟩ := hm
  obtain ⟨hR1, hR2, hR3, hR4⟩ := id hR
  refine x_aload_n (pc := 468) C dL_law_468 rfl rfl ?_
  refine x_iload (pc := 469) C dL_law_469 rfl ?_
  obtain ⟨k, h⟩ := chk_s h
  have k2 := k
  obtain ⟨v1, σ2, k, h⟩ := bnd_s h
  obtain ⟨kt, h⟩ := chk_s h
  obtain ⟨mσ2a, mσ2b⟩ := ckT2_s kt
  refine x_callV1 (pc := 471) C (mX7_matters E l k) cl5 k2 cL_275 nX7_matters sX7_matters rfl rfl (Nat.le_of_ble_eq_true rfl) ⟨(Nat.le_trans (Nat.le_of_ble_eq_true rfl) hR1), (Nat.le_trans (m := 40 * 10) (Nat.le_of_ble_eq_true rfl) hR2), by omega, by omega⟩ dL_law_471 ?_
  refine x_iload (pc := 474) C dL_law_474 rfl ?_
  refine x_ishr (pc := 476) C dL_law_476 ?_
  refine x_iconst (v := 1) (pc := 477) C dL_law_477 (by decide) ?_
  refine x_iand (pc := 478) C dL_law_478 ?_
  refine x_iload (pc := 479) C dL_law_479 rfl ?_
  refine x_if_eq (pc := 481) (tgt := 488) C dL_law_481 (by decide) (fun q => ?_) (fun q => ?_)
  · rw [if_pos q] at h
    refine x_iconst (v := 0) (pc := 488) C dL_law_488 (by decide) ?_
    exact x_sub (x_wide (by omega) (by omega) (tL_law_489 C hr hR hend hK115 hU115 hK125 hU125 hK359 hU359 ⟨by omega, by omega⟩ h)) (xLe_s (xLe_s (xLe_s (xLe_s (xLe_s (xLe_s (xLe_s (xLe_n (xLe_n (xLe_s (xLe_n (xLe_n (xLe_n xLe_0)))))))))))))
  · rw [if_neg q] at h
    refine x_iconst (v := 1) (pc := 484) C dL_law_484 (by decide) ?_
    refine x_goto (tgt := 489) (pc := 485) C dL_law_485 (by decide) ?_
    exact x_sub (x_wide (by omega) (by omega) (tL_law_489 C hr hR hend hK115 hU115 hK125 hU125 hK359 hU359 ⟨by omega, by omega⟩ h)) (xLe_s (xLe_s (xLe_s (xLe_s (xLe_s (xLe_s (xLe_s (xLe_n (xLe_n (xLe_s (xLe_n (xLe_n (xLe_n xLe_0)))))))))))))
def DL_law_399 (K115 : Nat → Nat → Nat → Nat → Int32 → Sg → Option (Int32 × Sg)) (K125 : Nat → Nat → Nat → Nat → Int32 → Int32 → Sg → Option (Int32 × Sg)) (K359 : Nat → Nat → Nat → Nat → Int32 → Int32 → Nat → Int32 → Sg → Option (Int32 × Sg)) : Nat → Nat → Nat → Nat → Nat → Int32 → Int32 → Nat → Int32 → Nat → Int32 → Int32 → Sg → Option (Int32 × Sg)
  | 0, _, _, _, _, _, _, _, _, _, _, _, _ => none
  | n + 1, l0, l1, l2, l3, l4, l5, l6, l9, l10, l11, l12, σ =>
    bnd (DL_coupons l0 l5 σ) fun v1 σ2 =>
    if v1 ≤ l12 then
      DL_law_468 K115 K125 K359 l0 l1 l2 l3 l4 l5 l6 l9 l11 σ2
    else
      chk (ckO σ2 5 l1) <|
      bnd (DX7_without l1 l9 l5 l12 σ2) fun v3 σ4 =>
      chk (ckT2 σ2 σ4) <|
      chk (ckP σ4 6 2 l10) <|
      chk (ckV (gR σ4 l10 2)) <|
      chk (ckA σ4 2 (gR σ4 l10 2) l12) <|
      if v3 = (aI σ4 (gR σ4 l10 2) l12.toNatClampNeg) then
        chk (ckP σ4 6 2 l10) <|
        chk (ckV (gR σ4 l10 2)) <|
        chk (ckA σ4 2 (gR σ4 l10 2) l12) <|
        chk (ckP σ4 6 2 l6) <|
        chk (ckV (gR σ4 l6 2)) <|
        chk (ckA σ4 2 (gR σ4 l6 2) l12) <|
        if (aI σ4 (gR σ4 l10 2) l12.toNatClampNeg) = (aI σ4 (gR σ4 l6 2) l12.toNatClampNeg) then
          DL_law_459 K115 K125 K359 (DL_law_399 K115 K125 K359 n) l0 l1 l2 l3 l4 l5 l6 l9 l10 l12 l11 (0 : Int32) σ4
        else
          DL_law_459 K115 K125 K359 (DL_law_399 K115 K125 K359 n) l0 l1 l2 l3 l4 l5 l6 l9 l10 l12 l11 (1 : Int32) σ4
      else
        DL_law_431 σ4
theorem uL_law_399 {r : Int32} {σ' : Sg} {K115 : Nat → Nat → Nat → Nat → Int32 → Sg → Option (Int32 × Sg)} (hU115 : ∀ (l0 : Nat) (l1 : Nat) (l2 : Nat) (l3 : Nat) (l4 : Int32) (σ : Sg), K115 l0 l1 l2 l3 l4 σ = some (r, σ') → Mo σ σ') {K125 : Nat → Nat → Nat → Nat → Int32 → Int32 → Sg → Option (Int32 × Sg)} (hU125 : ∀ (l0 : Nat) (l1 : Nat) (l2 : Nat) (l3 : Nat) (l4 : Int32) (l5 : Int32) (σ : Sg), K125 l0 l1 l2 l3 l4 l5 σ = some (r, σ') → Mo σ σ') {K359 : Nat → Nat → Nat → Nat → Int32 → Int32 → Nat → Int32 → Sg → Option (Int32 × Sg)} (hU359 : ∀ (l0 : Nat) (l1 : Nat) (l2 : Nat) (l3 : Nat) (l4 : Int32) (l5 : Int32) (l6 : Nat) (l9 : Int32) (σ : Sg), K359 l0 l1 l2 l3 l4 l5 l6 l9 σ = some (r, σ') → Mo σ σ') : ∀ (n : Nat) (l0 : Nat) (l1 : Nat) (l2 : Nat) (l3 : Nat) (l4 : Int32) (l5 : Int32) (l6 : Nat) (l9 : Int32) (l10 : Nat) (l11 : Int32) (l12 : Int32) (σ : Sg) (h : DL_law_399 K115 K125 K359 n l0 l1 l2 l3 l4 l5 l6 l9 l10 l11 l12 σ = some (r, σ')), Mo σ σ' := by
  intro n
  induction n with
  | zero => intro l0 l1 l2 l3 l4 l5 l6 l9 l10 l11 l12 σ h; cases h
  | succ n ih =>
    intro l0 l1 l2 l3 l4 l5 l6 l9 l10 l11 l12 σ h
    unfold DL_law_399 at h
    obtain ⟨v1, σ2, k, h⟩ := bnd_s h
    obtain ⟨mσ2a, mσ2b⟩ := umL_coupons k
    by_cases q : v1 ≤ l12
    · rw [if_pos q] at h
      obtain ⟨mz1, mz2⟩ := uL_law_468 hU115 hU125 hU359 h
      exact ⟨by omega, by omega⟩
    · rw [if_neg q] at h
      obtain ⟨k, h⟩ := chk_s h
      obtain ⟨v3, σ4, k, h⟩ := bnd_s h
      obtain ⟨kt, h⟩ := chk_s h
      obtain ⟨mσ4a, mσ4b⟩ := ckT2_s kt
      obtain ⟨k, h⟩ := chk_s h
      obtain ⟨k, h⟩ := chk_s h
      obtain ⟨k, h⟩ := chk_s h
      by_cases q : v3 = (aI σ4 (gR σ4 l10 2) l12.toNatClampNeg)
      · rw [if_pos q] at h
        obtain ⟨k, h⟩ := chk_s h
        obtain ⟨k, h⟩ := chk_s h
        obtain ⟨k, h⟩ := chk_s h
        obtain ⟨k, h⟩ := chk_s h
        obtain ⟨k, h⟩ := chk_s h
        obtain ⟨k, h⟩ := chk_s h
        by_cases q : (aI σ4 (gR σ4 l10 2) l12.toNatClampNeg) = (aI σ4 (gR σ4 l6 2) l12.toNatClampNeg)
        · rw [if_pos q] at h
          obtain ⟨mz1, mz2⟩ := uL_law_459 hU115 hU125 hU359 (fun a0 a1 a2 a3 a4 a5 a6 a7 a8 a9 a10 a11 h => ih a0 a1 a2 a3 a4 a5 a6 a7 a8 a9 a10 a11 h) h
          exact ⟨by omega, by omega⟩
        · rw [if_neg q] at h
          obtain ⟨mz1, mz2⟩ := uL_law_459 hU115 hU125 hU359 (fun a0 a1 a2 a3 a4 a5 a6 a7 a8 a9 a10 a11 h => ih a0 a1 a2 a3 a4 a5 a6 a7 a8 a9 a10 a11 h) h
          exact ⟨by omega, by omega⟩
      · rw [if_neg q] at h
        obtain ⟨mz1, mz2⟩ := uL_law_431 h
        exact ⟨by omega, by omega⟩
theorem tL_law_399 {r : Int32} {σ' : Sg} (C : Cx E p s m args meth c "ProratesLaw" cL_law 13) (hr : meth.sig.returnType = (some .boolean)) (hR : RR R 10 (c0 + (gM σ' - gM σ0)) (z0 + (gZ σ' - gZ σ0))) (hend : ∀ (pc : Nat) (L : List (Option Value)), decode cL_law pc = .ok (.ireturn, 1) → X E p l e R s m args below meth c Q 13 (c0 + (gM σ' - gM σ0)) (z0 + (gZ σ' - gZ σ0)) σ' pc L [.int r]) {K115 : Nat → Nat → Nat → Nat → Int32 → Sg → Option (Int32 × Sg)} (hK115 : ∀ (l0 : Nat) (l1 : Nat) (l2 : Nat) (l3 : Nat) (l4 : Int32) (σ : Sg), Mo σ0 σ → K115 l0 l1 l2 l3 l4 σ = some (r, σ') → X E p l e R s m args below meth c Q 13 (c0 + (gM σ - gM σ0)) (z0 + (gZ σ - gZ σ0)) σ 115 [some (.ref (ad E l0)), some (.ref (ad E l1)), some (.ref (ad E l2)), some (.ref (ad E l3)), some (.int l4), none, none, none, none, none, none, none, none] []) (hU115 : ∀ (l0 : Nat) (l1 : Nat) (l2 : Nat) (l3 : Nat) (l4 : Int32) (σ : Sg), K115 l0 l1 l2 l3 l4 σ = some (r, σ') → Mo σ σ') {K125 : Nat → Nat → Nat → Nat → Int32 → Int32 → Sg → Option (Int32 × Sg)} (hK125 : ∀ (l0 : Nat) (l1 : Nat) (l2 : Nat) (l3 : Nat) (l4 : Int32) (l5 : Int32) (σ : Sg), Mo σ0 σ → K125 l0 l1 l2 l3 l4 l5 σ = some (r, σ') → X E p l e R s m args below meth c Q 13 (c0 + (gM σ - gM σ0)) (z0 + (gZ σ - gZ σ0)) σ 125 [some (.ref (ad E l0)), some (.ref (ad E l1)), some (.ref (ad E l2)), some (.ref (ad E l3)), some (.int l4), some (.int l5), none, none, none, none, none, none, none] []) (hU125 : ∀ (l0 : Nat) (l1 : Nat) (l2 : Nat) (l3 : Nat) (l4 : Int32) (l5 : Int32) (σ : Sg), K125 l0 l1 l2 l3 l4 l5 σ = some (r, σ') → Mo σ σ') {K359 : Nat → Nat → Nat → Nat → Int32 → Int32 → Nat → Int32 → Sg → Option (Int32 × Sg)} (hK359 : ∀ (l0 : Nat) (l1 : Nat) (l2 : Nat) (l3 : Nat) (l4 : Int32) (l5 : Int32) (l6 : Nat) (l9 : Int32) (σ : Sg), Mo σ0 σ → K359 l0 l1 l2 l3 l4 l5 l6 l9 σ = some (r, σ') → X E p l e R s m args below meth c Q 13 (c0 + (gM σ - gM σ0)) (z0 + (gZ σ - gZ σ0)) σ 359 [some (.ref (ad E l0)), some (.ref (ad E l1)), some (.ref (ad E l2)), some (.ref (ad E l3)), some (.int l4), some (.int l5), some (.ref (ad E l6)), none, none, some (.int l9), none, none, none] []) (hU359 : ∀ (l0 : Nat) (l1 : Nat) (l2 : Nat) (l3 : Nat) (l4 : Int32) (l5 : Int32) (l6 : Nat) (l9 : Int32) (σ : Sg), K359 l0 l1 l2 l3 l4 l5 l6 l9 σ = some (r, σ') → Mo σ σ') : ∀ (n : Nat) (l0 : Nat) (l1 : Nat) (l2 : Nat) (l3 : Nat) (l4 : Int32) (l5 : Int32) (l6 : Nat) (l9 : Int32) (l10 : Nat) (l11 : Int32) (l12 : Int32) (σ : Sg) (hm : Mo σ0 σ) (h : DL_law_399 K115 K125 K359 n l0 l1 l2 l3 l4 l5 l6 l9 l10 l11 l12 σ = some (r, σ')), X E p l e R s m args below meth c Q 13 (c0 + (gM σ - gM σ0)) (z0 + (gZ σ - gZ σ0)) σ 399 [some (.ref (ad E l0)), some (.ref (ad E l1)), some (.ref (ad E l2)), some (.ref (ad E l3)), some (.int l4), some (.int l5), some (.ref (ad E l6)), none, none, some (.int l9), some (.ref (ad E l10)), some (.int l11), some (.int l12)] [] := by
  intro n
  induction n with
  | zero => intro l0 l1 l2 l3 l4 l5 l6 l9 l10 l11 l12 σ hm h; cases h
  | succ n ih =>
    intro l0 l1 l2 l3 l4 l5 l6 l9 l10 l11 l12 σ hm h
    obtain ⟨my1, my2⟩ := uL_law_399 hU115 hU125 hU359 (n + 1) _ _ _ _ _ _ _ _ _ _ _ _ h
    unfold DL_law_399 at h
    obtain ⟨hm1, hm2⟩ := hm
    obtain ⟨hR1, hR2, hR3, hR4⟩ := id hR
    refine x_iload (pc := 399) C dL_law_399 rfl ?_
    refine x_aload_n (pc := 401) C dL_law_401 rfl rfl ?_
    refine x_iload (pc := 402) C dL_law_402 rfl ?_
    obtain ⟨v1, σ2, k, h⟩ := bnd_s h
    obtain ⟨mσ2a, mσ2b⟩ := umL_coupons k
    refine x_callS1 (pc := 404) C (mL_coupons E l k) cL_151 zL_coupons rfl rfl (Nat.le_of_ble_eq_true rfl) ⟨(Nat.le_trans (Nat.le_of_ble_eq_true rfl) hR1), (Nat.le_trans (m := 40 * 10) (Nat.le_of_ble_eq_true rfl) hR2), by omega, by omega⟩ dL_law_404 ?_
    refine x_icmp_ge (pc := 407) (tgt := 468) C dL_law_407 (by decide) (fun q => ?_) (fun q => ?_)
    · rw [if_pos q] at h
      exact x_sub (x_wide (by omega) (by omega) (tL_law_468 C hr hR hend hK115 hU115 hK125 hU125 hK359 hU359 ⟨by omega, by omega⟩ h)) (xLe_s (xLe_s (xLe_s (xLe_s (xLe_s (xLe_s (xLe_s (xLe_n (xLe_n (xLe_s (xLe_n (xLe_s (xLe_n xLe_0)))))))))))))
    · rw [if_neg q] at h
      refine x_aload_n (pc := 410) C dL_law_410 rfl rfl ?_
      refine x_iload (pc := 411) C dL_law_411 rfl ?_
      refine x_iload (pc := 413) C dL_law_413 rfl ?_
      refine x_iload (pc := 415) C dL_law_415 rfl ?_
      obtain ⟨k, h⟩ := chk_s h
      have k2 := k
      obtain ⟨v3, σ4, k, h⟩ := bnd_s h
      obtain ⟨kt, h⟩ := chk_s h
      obtain ⟨mσ4a, mσ4b⟩ := ckT2_s kt
      refine x_callV1 (pc := 417) C (mX7_without E l k) cl5 k2 cL_272 nX7_without sX7_without rfl rfl (Nat.le_of_ble_eq_true rfl) ⟨(Nat.le_trans (Nat.le_of_ble_eq_true rfl) hR1), (Nat.le_trans (m := 40 * 10) (Nat.le_of_ble_eq_true rfl) hR2), by omega, by omega⟩ dL_law_417 ?_
      refine x_aload (pc := 420) C dL_law_420 rfl ?_
      obtain ⟨k, h⟩ := chk_s h
      have k2 := k
      obtain ⟨k, h⟩ := chk_s h
      refine x_dgetR (pc := 422) C fdL_206 rfl k2 k dL_law_422 ?_
      refine x_iload (pc := 425) C dL_law_425 rfl ?_
      obtain ⟨k, h⟩ := chk_s h
      refine x_diald (pc := 427) C k dL_law_427 ?_
      refine x_icmp_eq (pc := 428) (tgt := 433) C dL_law_428 (by decide) (fun q => ?_) (fun q => ?_)
      · rw [if_pos q] at h
        refine x_iload (pc := 433) C dL_law_433 rfl ?_
        refine x_aload (pc := 435) C dL_law_435 rfl ?_
        obtain ⟨k, h⟩ := chk_s h
        have k2 := k
        obtain ⟨k, h⟩ := chk_s h
        refine x_dgetR (pc := 437) C fdL_206 rfl k2 k dL_law_437 ?_
        refine x_iload (pc := 440) C dL_law_440 rfl ?_
        obtain ⟨k, h⟩ := chk_s h
        refine x_diald (pc := 442) C k dL_law_442 ?_
        refine x_aload (pc := 443) C dL_law_443 rfl ?_
        obtain ⟨k, h⟩ := chk_s h
        have k2 := k
        obtain ⟨k, h⟩ := chk_s h
        refine x_dgetR (pc := 445) C fdL_206 rfl k2 k dL_law_445 ?_
        refine x_iload (pc := 448) C dL_law_448 rfl ?_
        obtain ⟨k, h⟩ := chk_s h
        refine x_diald (pc := 450) C k dL_law_450 ?_
        refine x_icmp_eq (pc := 451) (tgt := 458) C dL_law_451 (by decide) (fun q => ?_) (fun q => ?_)
        · rw [if_pos q] at h
          refine x_iconst (v := 0) (pc := 458) C dL_law_458 (by decide) ?_
          exact x_sub (x_wide (by omega) (by omega) (tL_law_459 C hr hR hend hK115 hU115 hK125 hU125 hK359 hU359 (fun a0 a1 a2 a3 a4 a5 a6 a7 a8 a9 a10 a11 hm => ih a0 a1 a2 a3 a4 a5 a6 a7 a8 a9 a10 a11 hm) (fun a0 a1 a2 a3 a4 a5 a6 a7 a8 a9 a10 a11 h => uL_law_399 hU115 hU125 hU359 n a0 a1 a2 a3 a4 a5 a6 a7 a8 a9 a10 a11 h) ⟨by omega, by omega⟩ h)) (xLe_s (xLe_s (xLe_s (xLe_s (xLe_s (xLe_s (xLe_s (xLe_n (xLe_n (xLe_s (xLe_s (xLe_n (xLe_s xLe_0)))))))))))))
        · rw [if_neg q] at h
          refine x_iconst (v := 1) (pc := 454) C dL_law_454 (by decide) ?_
          refine x_goto (tgt := 459) (pc := 455) C dL_law_455 (by decide) ?_
          exact x_sub (x_wide (by omega) (by omega) (tL_law_459 C hr hR hend hK115 hU115 hK125 hU125 hK359 hU359 (fun a0 a1 a2 a3 a4 a5 a6 a7 a8 a9 a10 a11 hm => ih a0 a1 a2 a3 a4 a5 a6 a7 a8 a9 a10 a11 hm) (fun a0 a1 a2 a3 a4 a5 a6 a7 a8 a9 a10 a11 h => uL_law_399 hU115 hU125 hU359 n a0 a1 a2 a3 a4 a5 a6 a7 a8 a9 a10 a11 h) ⟨by omega, by omega⟩ h)) (xLe_s (xLe_s (xLe_s (xLe_s (xLe_s (xLe_s (xLe_s (xLe_n (xLe_n (xLe_s (xLe_s (xLe_n (xLe_s xLe_0)))))))))))))
      · rw [if_neg q] at h
        exact x_sub (x_wide (by omega) (by omega) (tL_law_431 C hr hR hend ⟨by omega, by omega⟩ h)) (xLe_n (xLe_n (xLe_n (xLe_n (xLe_n (xLe_n (xLe_n (xLe_n (xLe_n (xLe_n (xLe_n (xLe_n (xLe_n xLe_0)))))))))))))
def DL_law_391 (K115 : Nat → Nat → Nat → Nat → Int32 → Sg → Option (Int32 × Sg)) (K125 : Nat → Nat → Nat → Nat → Int32 → Int32 → Sg → Option (Int32 × Sg)) (K359 : Nat → Nat → Nat → Nat → Int32 → Int32 → Nat → Int32 → Sg → Option (Int32 × Sg)) (l0 : Nat) (l1 : Nat) (l2 : Nat) (l3 : Nat) (l4 : Int32) (l5 : Int32) (l6 : Nat) (l9 : Int32) (s0 : Nat) (σ : Sg) : Option (Int32 × Sg) :=
  DL_law_399 K115 K125 K359 FU l0 l1 l2 l3 l4 l5 l6 l9 s0 (0 : Int32) (0 : Int32) σ
theorem uL_law_391 {r : Int32} {σ' : Sg} {K115 : Nat → Nat → Nat → Nat → Int32 → Sg → Option (Int32 × Sg)} (hU115 : ∀ (l0 : Nat) (l1 : Nat) (l2 : Nat) (l3 : Nat) (l4 : Int32) (σ : Sg), K115 l0 l1 l2 l3 l4 σ = some (r, σ') → Mo σ σ') {K125 : Nat → Nat → Nat → Nat → Int32 → Int32 → Sg → Option (Int32 × Sg)} (hU125 : ∀ (l0 : Nat) (l1 : Nat) (l2 : Nat) (l3 : Nat) (l4 : Int32) (l5 : Int32) (σ : Sg), K125 l0 l1 l2 l3 l4 l5 σ = some (r, σ') → Mo σ σ') {K359 : Nat → Nat → Nat → Nat → Int32 → Int32 → Nat → Int32 → Sg → Option (Int32 × Sg)} (hU359 : ∀ (l0 : Nat) (l1 : Nat) (l2 : Nat) (l3 : Nat) (l4 : Int32) (l5 : Int32) (l6 : Nat) (l9 : Int32) (σ : Sg), K359 l0 l1 l2 l3 l4 l5 l6 l9 σ = some (r, σ') → Mo σ σ') {l0 : Nat} {l1 : Nat} {l2 : Nat} {l3 : Nat} {l4 : Int32} {l5 : Int32} {l6 : Nat} {l9 : Int32} {s0 : Nat} {σ : Sg} (h : DL_law_391 K115 K125 K359 l0 l1 l2 l3 l4 l5 l6 l9 s0 σ = some (r, σ')) : Mo σ σ' := by
  unfold DL_law_391 at h
  obtain ⟨mz1, mz2⟩ := uL_law_399 hU115 hU125 hU359 FU _ _ _ _ _ _ _ _ _ _ _ _ h
  exact ⟨by omega, by omega⟩
theorem tL_law_391 {r : Int32} {σ' : Sg} (C : Cx E p s m args meth c "ProratesLaw" cL_law 13) (hr : meth.sig.returnType = (some .boolean)) (hR : RR R 10 (c0 + (gM σ' - gM σ0)) (z0 + (gZ σ' - gZ σ0))) (hend : ∀ (pc : Nat) (L : List (Option Value)), decode cL_law pc = .ok (.ireturn, 1) → X E p l e R s m args below meth c Q 13 (c0 + (gM σ' - gM σ0)) (z0 + (gZ σ' - gZ σ0)) σ' pc L [.int r]) {K115 : Nat → Nat → Nat → Nat → Int32 → Sg → Option (Int32 × Sg)} (hK115 : ∀ (l0 : Nat) (l1 : Nat) (l2 : Nat) (l3 : Nat) (l4 : Int32) (σ : Sg), Mo σ0 σ → K115 l0 l1 l2 l3 l4 σ = some (r, σ') → X E p l e R s m args below meth c Q 13 (c0 + (gM σ - gM σ0)) (z0 + (gZ σ - gZ σ0)) σ 115 [some (.ref (ad E l0)), some (.ref (ad E l1)), some (.ref (ad E l2)), some (.ref (ad E l3)), some (.int l4), none, none, none, none, none, none, none, none] []) (hU115 : ∀ (l0 : Nat) (l1 : Nat) (l2 : Nat) (l3 : Nat) (l4 : Int32) (σ : Sg), K115 l0 l1 l2 l3 l4 σ = some (r, σ') → Mo σ σ') {K125 : Nat → Nat → Nat → Nat → Int32 → Int32 → Sg → Option (Int32 × Sg)} (hK125 : ∀ (l0 : Nat) (l1 : Nat) (l2 : Nat) (l3 : Nat) (l4 : Int32) (l5 : Int32) (σ : Sg), Mo σ0 σ → K125 l0 l1 l2 l3 l4 l5 σ = some (r, σ') → X E p l e R s m args below meth c Q 13 (c0 + (gM σ - gM σ0)) (z0 + (gZ σ - gZ σ0)) σ 125 [some (.ref (ad E l0)), some (.ref (ad E l1)), some (.ref (ad E l2)), some (.ref (ad E l3)), some (.int l4), some (.int l5), none, none, none, none, none, none, none] []) (hU125 : ∀ (l0 : Nat) (l1 : Nat) (l2 : Nat) (l3 : Nat) (l4 : Int32) (l5 : Int32) (σ : Sg), K125 l0 l1 l2 l3 l4 l5 σ = some (r, σ') → Mo σ σ') {K359 : Nat → Nat → Nat → Nat → Int32 → Int32 → Nat → Int32 → Sg → Option (Int32 × Sg)} (hK359 : ∀ (l0 : Nat) (l1 : Nat) (l2 : Nat) (l3 : Nat) (l4 : Int32) (l5 : Int32) (l6 : Nat) (l9 : Int32) (σ : Sg), Mo σ0 σ → K359 l0 l1 l2 l3 l4 l5 l6 l9 σ = some (r, σ') → X E p l e R s m args below meth c Q 13 (c0 + (gM σ - gM σ0)) (z0 + (gZ σ - gZ σ0)) σ 359 [some (.ref (ad E l0)), some (.ref (ad E l1)), some (.ref (ad E l2)), some (.ref (ad E l3)), some (.int l4), some (.int l5), some (.ref (ad E l6)), none, none, some (.int l9), none, none, none] []) (hU359 : ∀ (l0 : Nat) (l1 : Nat) (l2 : Nat) (l3 : Nat) (l4 : Int32) (l5 : Int32) (l6 : Nat) (l9 : Int32) (σ : Sg), K359 l0 l1 l2 l3 l4 l5 l6 l9 σ = some (r, σ') → Mo σ σ') {l0 : Nat} {l1 : Nat} {l2 : Nat} {l3 : Nat} {l4 : Int32} {l5 : Int32} {l6 : Nat} {l9 : Int32} {s0 : Nat} {σ : Sg} (hm : Mo σ0 σ) (h : DL_law_391 K115 K125 K359 l0 l1 l2 l3 l4 l5 l6 l9 s0 σ = some (r, σ')) : X E p l e R s m args below meth c Q 13 (c0 + (gM σ - gM σ0)) (z0 + (gZ σ - gZ σ0)) σ 391 [some (.ref (ad E l0)), some (.ref (ad E l1)), some (.ref (ad E l2)), some (.ref (ad E l3)), some (.int l4), some (.int l5), some (.ref (ad E l6)), none, none, some (.int l9), none, none, none] [.ref (ad E s0)] := by
  obtain ⟨my1, my2⟩ := uL_law_391 hU115 hU125 hU359 h
  unfold DL_law_391 at h
  obtain ⟨hm1, hm2⟩ := hm
  obtain ⟨hR1, hR2, hR3, hR4⟩ := id hR
  refine x_astore (M := [some _, some _, some _, some _, some _, some _, some _, none, none, some _, some _, none, none]) (pc := 391) C dL_law_391 (by decide) rfl ?_
  refine x_iconst (v := 0) (pc := 393) C dL_law_393 (by decide) ?_
  refine x_istore (M := [some _, some _, some _, some _, some _, some _, some _, none, none, some _, some _, some _, none]) (pc := 394) C dL_law_394 (by decide) rfl ?_
  refine x_iconst (v := 0) (pc := 396) C dL_law_396 (by decide) ?_
  refine x_istore (M := [some _, some _, some _, some _, some _, some _, some _, none, none, some _, some _, some _, some _]) (pc := 397) C dL_law_397 (by decide) rfl ?_
  exact x_sub (x_wide (by omega) (by omega) (tL_law_399 C hr hR hend hK115 hU115 hK125 hU125 hK359 hU359 FU _ _ _ _ _ _ _ _ _ _ _ _ ⟨by omega, by omega⟩ h)) (xLe_s (xLe_s (xLe_s (xLe_s (xLe_s (xLe_s (xLe_s (xLe_n (xLe_n (xLe_s (xLe_s (xLe_s (xLe_s xLe_0)))))))))))))
def DL_law_500 (K115 : Nat → Nat → Nat → Nat → Int32 → Sg → Option (Int32 × Sg)) (K125 : Nat → Nat → Nat → Nat → Int32 → Int32 → Sg → Option (Int32 × Sg)) (l0 : Nat) (l1 : Nat) (l2 : Nat) (l3 : Nat) (l4 : Int32) (l5 : Int32) (σ : Sg) : Option (Int32 × Sg) :=
  K125 l0 l1 l2 l3 l4 (l5 + (1 : Int32)) σ
theorem uL_law_500 {r : Int32} {σ' : Sg} {K115 : Nat → Nat → Nat → Nat → Int32 → Sg → Option (Int32 × Sg)} (hU115 : ∀ (l0 : Nat) (l1 : Nat) (l2 : Nat) (l3 : Nat) (l4 : Int32) (σ : Sg), K115 l0 l1 l2 l3 l4 σ = some (r, σ') → Mo σ σ') {K125 : Nat → Nat → Nat → Nat → Int32 → Int32 → Sg → Option (Int32 × Sg)} (hU125 : ∀ (l0 : Nat) (l1 : Nat) (l2 : Nat) (l3 : Nat) (l4 : Int32) (l5 : Int32) (σ : Sg), K125 l0 l1 l2 l3 l4 l5 σ = some (r, σ') → Mo σ σ') {l0 : Nat} {l1 : Nat} {l2 : Nat} {l3 : Nat} {l4 : Int32} {l5 : Int32} {σ : Sg} (h : DL_law_500 K115 K125 l0 l1 l2 l3 l4 l5 σ = some (r, σ')) : Mo σ σ' := by
  unfold DL_law_500 at h
  obtain ⟨mz1, mz2⟩ := hU125 _ _ _ _ _ _ _ h
  exact ⟨by omega, by omega⟩
theorem tL_law_500 {r : Int32} {σ' : Sg} (C : Cx E p s m args meth c "ProratesLaw" cL_law 13) (hr : meth.sig.returnType = (some .boolean)) (hR : RR R 10 (c0 + (gM σ' - gM σ0)) (z0 + (gZ σ' - gZ σ0))) (hend : ∀ (pc : Nat) (L : List (Option Value)), decode cL_law pc = .ok (.ireturn, 1) → X E p l e R s m args below meth c Q 13 (c0 + (gM σ' - gM σ0)) (z0 + (gZ σ' - gZ σ0)) σ' pc L [.int r]) {K115 : Nat → Nat → Nat → Nat → Int32 → Sg → Option (Int32 × Sg)} (hK115 : ∀ (l0 : Nat) (l1 : Nat) (l2 : Nat) (l3 : Nat) (l4 : Int32) (σ : Sg), Mo σ0 σ → K115 l0 l1 l2 l3 l4 σ = some (r, σ') → X E p l e R s m args below meth c Q 13 (c0 + (gM σ - gM σ0)) (z0 + (gZ σ - gZ σ0)) σ 115 [some (.ref (ad E l0)), some (.ref (ad E l1)), some (.ref (ad E l2)), some (.ref (ad E l3)), some (.int l4), none, none, none, none, none, none, none, none] []) (hU115 : ∀ (l0 : Nat) (l1 : Nat) (l2 : Nat) (l3 : Nat) (l4 : Int32) (σ : Sg), K115 l0 l1 l2 l3 l4 σ = some (r, σ') → Mo σ σ') {K125 : Nat → Nat → Nat → Nat → Int32 → Int32 → Sg → Option (Int32 × Sg)} (hK125 : ∀ (l0 : Nat) (l1 : Nat) (l2 : Nat) (l3 : Nat) (l4 : Int32) (l5 : Int32) (σ : Sg), Mo σ0 σ → K125 l0 l1 l2 l3 l4 l5 σ = some (r, σ') → X E p l e R s m args below meth c Q 13 (c0 + (gM σ - gM σ0)) (z0 + (gZ σ - gZ σ0)) σ 125 [some (.ref (ad E l0)), some (.ref (ad E l1)), some (.ref (ad E l2)), some (.ref (ad E l3)), some (.int l4), some (.int l5), none, none, none, none, none, none, none] []) (hU125 : ∀ (l0 : Nat) (l1 : Nat) (l2 : Nat) (l3 : Nat) (l4 : Int32) (l5 : Int32) (σ : Sg), K125 l0 l1 l2 l3 l4 l5 σ = some (r, σ') → Mo σ σ') {l0 : Nat} {l1 : Nat} {l2 : Nat} {l3 : Nat} {l4 : Int32} {l5 : Int32} {σ : Sg} (hm : Mo σ0 σ) (h : DL_law_500 K115 K125 l0 l1 l2 l3 l4 l5 σ = some (r, σ')) : X E p l e R s m args below meth c Q 13 (c0 + (gM σ - gM σ0)) (z0 + (gZ σ - gZ σ0)) σ 500 [some (.ref (ad E l0)), some (.ref (ad E l1)), some (.ref (ad E l2)), some (.ref (ad E l3)), some (.int l4), some (.int l5), none, none, none, none, none, none, none] [] := by
  obtain ⟨my1, my2⟩ := uL_law_500 hU115 hU125 h
  unfold DL_law_500 at h
  obtain ⟨hm1, hm2⟩ := hm
  obtain ⟨hR1, hR2, hR3, hR4⟩ := id hR
  refine x_iinc (v := 1) (M := [some _, some _, some _, some _, some _, some _, none, none, none, none, none, none, none]) (pc := 500) C dL_law_500 rfl (by decide) (by decide) rfl ?_
  refine x_goto (tgt := 125) (pc := 503) C dL_law_503 (by decide) ?_
  exact x_sub (x_wide (by omega) (by omega) (hK125 _ _ _ _ _ _ _ ⟨by omega, by omega⟩ h)) (xLe_s (xLe_s (xLe_s (xLe_s (xLe_s (xLe_s (xLe_n (xLe_n (xLe_n (xLe_n (xLe_n (xLe_n (xLe_n xLe_0)))))))))))))
def DL_law_359 (K115 : Nat → Nat → Nat → Nat → Int32 → Sg → Option (Int32 × Sg)) (K125 : Nat → Nat → Nat → Nat → Int32 → Int32 → Sg → Option (Int32 × Sg)) : Nat → Nat → Nat → Nat → Nat → Int32 → Int32 → Nat → Int32 → Sg → Option (Int32 × Sg)
  | 0, _, _, _, _, _, _, _, _, _ => none
  | n + 1, l0, l1, l2, l3, l4, l5, l6, l9, σ =>
    bnd (DL_provisos l0 σ) fun v1 σ2 =>
    if v1 ≤ l9 then
      DL_law_500 K115 K125 l0 l1 l2 l3 l4 l5 σ2
    else
      bnd (DL_how l0 l5 σ2) fun v3 σ4 =>
      chk (ckB σ4 5 l2 l5) <|
      chk (ckV (gR σ4 l2 l5.toNatClampNeg)) <|
      chk (ckB σ4 5 l3 l5) <|
      chk (ckV (gR σ4 l3 l5.toNatClampNeg)) <|
      bnd (DL_found l0 l5 v3 (gR σ4 l2 l5.toNatClampNeg) (gR σ4 l3 l5.toNatClampNeg) l9 (0 : Int32) σ4) fun v5 σ6 =>
      DL_law_391 K115 K125 (DL_law_359 K115 K125 n) l0 l1 l2 l3 l4 l5 l6 l9 v5 σ6
theorem uL_law_359 {r : Int32} {σ' : Sg} {K115 : Nat → Nat → Nat → Nat → Int32 → Sg → Option (Int32 × Sg)} (hU115 : ∀ (l0 : Nat) (l1 : Nat) (l2 : Nat) (l3 : Nat) (l4 : Int32) (σ : Sg), K115 l0 l1 l2 l3 l4 σ = some (r, σ') → Mo σ σ') {K125 : Nat → Nat → Nat → Nat → Int32 → Int32 → Sg → Option (Int32 × Sg)} (hU125 : ∀ (l0 : Nat) (l1 : Nat) (l2 : Nat) (l3 : Nat) (l4 : Int32) (l5 : Int32) (σ : Sg), K125 l0 l1 l2 l3 l4 l5 σ = some (r, σ') → Mo σ σ') : ∀ (n : Nat) (l0 : Nat) (l1 : Nat) (l2 : Nat) (l3 : Nat) (l4 : Int32) (l5 : Int32) (l6 : Nat) (l9 : Int32) (σ : Sg) (h : DL_law_359 K115 K125 n l0 l1 l2 l3 l4 l5 l6 l9 σ = some (r, σ')), Mo σ σ' := by
  intro n
  induction n with
  | zero => intro l0 l1 l2 l3 l4 l5 l6 l9 σ h; cases h
  | succ n ih =>
    intro l0 l1 l2 l3 l4 l5 l6 l9 σ h
    unfold DL_law_359 at h
    obtain ⟨v1, σ2, k, h⟩ := bnd_s h
    obtain ⟨mσ2a, mσ2b⟩ := umL_provisos k
    by_cases q : v1 ≤ l9
    · rw [if_pos q] at h
      obtain ⟨mz1, mz2⟩ := uL_law_500 hU115 hU125 h
      exact ⟨by omega, by omega⟩
    · rw [if_neg q] at h
      obtain ⟨v3, σ4, k, h⟩ := bnd_s h
      obtain ⟨mσ4a, mσ4b⟩ := umL_how k
      obtain ⟨k, h⟩ := chk_s h
      obtain ⟨k, h⟩ := chk_s h
      obtain ⟨k, h⟩ := chk_s h
      obtain ⟨k, h⟩ := chk_s h
      obtain ⟨v5, σ6, k, h⟩ := bnd_s h
      obtain ⟨mσ6a, mσ6b⟩ := umL_found k
      obtain ⟨mz1, mz2⟩ := uL_law_391 hU115 hU125 (fun a0 a1 a2 a3 a4 a5 a6 a7 a8 h => ih a0 a1 a2 a3 a4 a5 a6 a7 a8 h) h
      exact ⟨by omega, by omega⟩
theorem tL_law_359 {r : Int32} {σ' : Sg} (C : Cx E p s m args meth c "ProratesLaw" cL_law 13) (hr : meth.sig.returnType = (some .boolean)) (hR : RR R 10 (c0 + (gM σ' - gM σ0)) (z0 + (gZ σ' - gZ σ0))) (hend : ∀ (pc : Nat) (L : List (Option Value)), decode cL_law pc = .ok (.ireturn, 1) → X E p l e R s m args below meth c Q 13 (c0 + (gM σ' - gM σ0)) (z0 + (gZ σ' - gZ σ0)) σ' pc L [.int r]) {K115 : Nat → Nat → Nat → Nat → Int32 → Sg → Option (Int32 × Sg)} (hK115 : ∀ (l0 : Nat) (l1 : Nat) (l2 : Nat) (l3 : Nat) (l4 : Int32) (σ : Sg), Mo σ0 σ → K115 l0 l1 l2 l3 l4 σ = some (r, σ') → X E p l e R s m args below meth c Q 13 (c0 + (gM σ - gM σ0)) (z0 + (gZ σ - gZ σ0)) σ 115 [some (.ref (ad E l0)), some (.ref (ad E l1)), some (.ref (ad E l2)), some (.ref (ad E l3)), some (.int l4), none, none, none, none, none, none, none, none] []) (hU115 : ∀ (l0 : Nat) (l1 : Nat) (l2 : Nat) (l3 : Nat) (l4 : Int32) (σ : Sg), K115 l0 l1 l2 l3 l4 σ = some (r, σ') → Mo σ σ') {K125 : Nat → Nat → Nat → Nat → Int32 → Int32 → Sg → Option (Int32 × Sg)} (hK125 : ∀ (l0 : Nat) (l1 : Nat) (l2 : Nat) (l3 : Nat) (l4 : Int32) (l5 : Int32) (σ : Sg), Mo σ0 σ → K125 l0 l1 l2 l3 l4 l5 σ = some (r, σ') → X E p l e R s m args below meth c Q 13 (c0 + (gM σ - gM σ0)) (z0 + (gZ σ - gZ σ0)) σ 125 [some (.ref (ad E l0)), some (.ref (ad E l1)), some (.ref (ad E l2)), some (.ref (ad E l3)), some (.int l4), some (.int l5), none, none, none, none, none, none, none] []) (hU125 : ∀ (l0 : Nat) (l1 : Nat) (l2 : Nat) (l3 : Nat) (l4 : Int32) (l5 : Int32) (σ : Sg), K125 l0 l1 l2 l3 l4 l5 σ = some (r, σ') → Mo σ σ') : ∀ (n : Nat) (l0 : Nat) (l1 : Nat) (l2 : Nat) (l3 : Nat) (l4 : Int32) (l5 : Int32) (l6 : Nat) (l9 : Int32) (σ : Sg) (hm : Mo σ0 σ) (h : DL_law_359 K115 K125 n l0 l1 l2 l3 l4 l5 l6 l9 σ = some (r, σ')), X E p l e R s m args below meth c Q 13 (c0 + (gM σ - gM σ0)) (z0 + (gZ σ - gZ σ0)) σ 359 [some (.ref (ad E l0)), some (.ref (ad E l1)), some (.ref (ad E l2)), some (.ref (ad E l3)), some (.int l4), some (.int l5), some (.ref (ad E l6)), none, none, some (.int l9), none, none, none] [] := by
  intro n
  induction n with
  | zero => intro l0 l1 l2 l3 l4 l5 l6 l9 σ hm h; cases h
  | succ n ih =>
    intro l0 l1 l2 l3 l4 l5 l6 l9 σ hm h
    obtain ⟨my1, my2⟩ := uL_law_359 hU115 hU125 (n + 1) _ _ _ _ _ _ _ _ _ h
    unfold DL_law_359 at h
    obtain ⟨hm1, hm2⟩ := hm
    obtain ⟨hR1, hR2, hR3, hR4⟩ := id hR
    refine x_iload (pc := 359) C dL_law_359 rfl ?_
    refine x_aload_n (pc := 361) C dL_law_361 rfl rfl ?_
    obtain ⟨v1, σ2, k, h⟩ := bnd_s h
    obtain ⟨mσ2a, mσ2b⟩ := umL_provisos k
    refine x_callS1 (pc := 362) C (mL_provisos E l k) cL_106 zL_provisos rfl rfl (Nat.le_of_ble_eq_true rfl) ⟨(Nat.le_trans (Nat.le_of_ble_eq_true rfl) hR1), (Nat.le_trans (m := 40 * 10) (Nat.le_of_ble_eq_true rfl) hR2), by omega, by omega⟩ dL_law_362 ?_
    refine x_icmp_ge (pc := 365) (tgt := 500) C dL_law_365 (by decide) (fun q => ?_) (fun q => ?_)
    · rw [if_pos q] at h
      exact x_sub (x_wide (by omega) (by omega) (tL_law_500 C hr hR hend hK115 hU115 hK125 hU125 ⟨by omega, by omega⟩ h)) (xLe_s (xLe_s (xLe_s (xLe_s (xLe_s (xLe_s (xLe_n (xLe_n (xLe_n (xLe_n (xLe_n (xLe_n (xLe_n xLe_0)))))))))))))
    · rw [if_neg q] at h
      refine x_aload_n (pc := 368) C dL_law_368 rfl rfl ?_
      refine x_iload (pc := 369) C dL_law_369 rfl ?_
      refine x_aload_n (pc := 371) C dL_law_371 rfl rfl ?_
      refine x_iload (pc := 372) C dL_law_372 rfl ?_
      obtain ⟨v3, σ4, k, h⟩ := bnd_s h
      obtain ⟨mσ4a, mσ4b⟩ := umL_how k
      refine x_callS1 (pc := 374) C (mL_how E l k) cL_141 zL_how rfl rfl (Nat.le_of_ble_eq_true rfl) ⟨(Nat.le_trans (Nat.le_of_ble_eq_true rfl) hR1), (Nat.le_trans (m := 40 * 10) (Nat.le_of_ble_eq_true rfl) hR2), by omega, by omega⟩ dL_law_374 ?_
      refine x_aload_n (pc := 377) C dL_law_377 rfl rfl ?_
      refine x_iload (pc := 378) C dL_law_378 rfl ?_
      obtain ⟨k, h⟩ := chk_s h
      have k2 := k
      obtain ⟨k, h⟩ := chk_s h
      refine x_daald (pc := 380) C k2 k dL_law_380 ?_
      refine x_aload_n (pc := 381) C dL_law_381 rfl rfl ?_
      refine x_iload (pc := 382) C dL_law_382 rfl ?_
      obtain ⟨k, h⟩ := chk_s h
      have k2 := k
      obtain ⟨k, h⟩ := chk_s h
      refine x_daald (pc := 384) C k2 k dL_law_384 ?_
      refine x_iload (pc := 385) C dL_law_385 rfl ?_
      refine x_iconst (v := 0) (pc := 387) C dL_law_387 (by decide) ?_
      obtain ⟨v5, σ6, k, h⟩ := bnd_s h
      obtain ⟨mσ6a, mσ6b⟩ := umL_found k
      obtain ⟨mz1, mz2⟩ := uL_law_391 hU115 hU125 (fun a0 a1 a2 a3 a4 a5 a6 a7 a8 h => uL_law_359 hU115 hU125 n a0 a1 a2 a3 a4 a5 a6 a7 a8 h) h
      refine x_callS1 (pc := 388) C (mL_found E l k) cL_258 zL_found rfl rfl (Nat.le_of_ble_eq_true rfl) ⟨(Nat.le_trans (Nat.le_of_ble_eq_true rfl) hR1), (Nat.le_trans (m := 40 * 10) (Nat.le_of_ble_eq_true rfl) hR2), by omega, by omega⟩ dL_law_388 ?_
      exact x_sub (x_wide (by omega) (by omega) (tL_law_391 C hr hR hend hK115 hU115 hK125 hU125 (fun a0 a1 a2 a3 a4 a5 a6 a7 a8 hm => ih a0 a1 a2 a3 a4 a5 a6 a7 a8 hm) (fun a0 a1 a2 a3 a4 a5 a6 a7 a8 h => uL_law_359 hU115 hU125 n a0 a1 a2 a3 a4 a5 a6 a7 a8 h) ⟨by omega, by omega⟩ h)) (xLe_s (xLe_s (xLe_s (xLe_s (xLe_s (xLe_s (xLe_s (xLe_n (xLe_n (xLe_s (xLe_n (xLe_n (xLe_n xLe_0)))))))))))))
def DL_law_356 (K115 : Nat → Nat → Nat → Nat → Int32 → Sg → Option (Int32 × Sg)) (K125 : Nat → Nat → Nat → Nat → Int32 → Int32 → Sg → Option (Int32 × Sg)) (l0 : Nat) (l1 : Nat) (l2 : Nat) (l3 : Nat) (l4 : Int32) (l5 : Int32) (l6 : Nat) (σ : Sg) : Option (Int32 × Sg) :=
  DL_law_359 K115 K125 FU l0 l1 l2 l3 l4 l5 l6 (0 : Int32) σ
theorem uL_law_356 {r : Int32} {σ' : Sg} {K115 : Nat → Nat → Nat → Nat → Int32 → Sg → Option (Int32 × Sg)} (hU115 : ∀ (l0 : Nat) (l1 : Nat) (l2 : Nat) (l3 : Nat) (l4 : Int32) (σ : Sg), K115 l0 l1 l2 l3 l4 σ = some (r, σ') → Mo σ σ') {K125 : Nat → Nat → Nat → Nat → Int32 → Int32 → Sg → Option (Int32 × Sg)} (hU125 : ∀ (l0 : Nat) (l1 : Nat) (l2 : Nat) (l3 : Nat) (l4 : Int32) (l5 : Int32) (σ : Sg), K125 l0 l1 l2 l3 l4 l5 σ = some (r, σ') → Mo σ σ') {l0 : Nat} {l1 : Nat} {l2 : Nat} {l3 : Nat} {l4 : Int32} {l5 : Int32} {l6 : Nat} {σ : Sg} (h : DL_law_356 K115 K125 l0 l1 l2 l3 l4 l5 l6 σ = some (r, σ')) : Mo σ σ' := by
  unfold DL_law_356 at h
  obtain ⟨mz1, mz2⟩ := uL_law_359 hU115 hU125 FU _ _ _ _ _ _ _ _ _ h
  exact ⟨by omega, by omega⟩
theorem tL_law_356 {r : Int32} {σ' : Sg} (C : Cx E p s m args meth c "ProratesLaw" cL_law 13) (hr : meth.sig.returnType = (some .boolean)) (hR : RR R 10 (c0 + (gM σ' - gM σ0)) (z0 + (gZ σ' - gZ σ0))) (hend : ∀ (pc : Nat) (L : List (Option Value)), decode cL_law pc = .ok (.ireturn, 1) → X E p l e R s m args below meth c Q 13 (c0 + (gM σ' - gM σ0)) (z0 + (gZ σ' - gZ σ0)) σ' pc L [.int r]) {K115 : Nat → Nat → Nat → Nat → Int32 → Sg → Option (Int32 × Sg)} (hK115 : ∀ (l0 : Nat) (l1 : Nat) (l2 : Nat) (l3 : Nat) (l4 : Int32) (σ : Sg), Mo σ0 σ → K115 l0 l1 l2 l3 l4 σ = some (r, σ') → X E p l e R s m args below meth c Q 13 (c0 + (gM σ - gM σ0)) (z0 + (gZ σ - gZ σ0)) σ 115 [some (.ref (ad E l0)), some (.ref (ad E l1)), some (.ref (ad E l2)), some (.ref (ad E l3)), some (.int l4), none, none, none, none, none, none, none, none] []) (hU115 : ∀ (l0 : Nat) (l1 : Nat) (l2 : Nat) (l3 : Nat) (l4 : Int32) (σ : Sg), K115 l0 l1 l2 l3 l4 σ = some (r, σ') → Mo σ σ') {K125 : Nat → Nat → Nat → Nat → Int32 → Int32 → Sg → Option (Int32 × Sg)} (hK125 : ∀ (l0 : Nat) (l1 : Nat) (l2 : Nat) (l3 : Nat) (l4 : Int32) (l5 : Int32) (σ : Sg), Mo σ0 σ → K125 l0 l1 l2 l3 l4 l5 σ = some (r, σ') → X E p l e R s m args below meth c Q 13 (c0 + (gM σ - gM σ0)) (z0 + (gZ σ - gZ σ0)) σ 125 [some (.ref (ad E l0)), some (.ref (ad E l1)), some (.ref (ad E l2)), some (.ref (ad E l3)), some (.int l4), some (.int l5), none, none, none, none, none, none, none] []) (hU125 : ∀ (l0 : Nat) (l1 : Nat) (l2 : Nat) (l3 : Nat) (l4 : Int32) (l5 : Int32) (σ : Sg), K125 l0 l1 l2 l3 l4 l5 σ = some (r, σ') → Mo σ σ') {l0 : Nat} {l1 : Nat} {l2 : Nat} {l3 : Nat} {l4 : Int32} {l5 : Int32} {l6 : Nat} {σ : Sg} (hm : Mo σ0 σ) (h : DL_law_356 K115 K125 l0 l1 l2 l3 l4 l5 l6 σ = some (r, σ')) : X E p l e R s m args below meth c Q 13 (c0 + (gM σ - gM σ0)) (z0 + (gZ σ - gZ σ0)) σ 356 [some (.ref (ad E l0)), some (.ref (ad E l1)), some (.ref (ad E l2)), some (.ref (ad E l3)), some (.int l4), some (.int l5), some (.ref (ad E l6)), none, none, none, none, none, none] [] := by
  obtain ⟨my1, my2⟩ := uL_law_356 hU115 hU125 h
  unfold DL_law_356 at h
  obtain ⟨hm1, hm2⟩ := hm
  obtain ⟨hR1, hR2, hR3, hR4⟩ := id hR
  refine x_iconst (v := 0) (pc := 356) C dL_law_356 (by decide) ?_
  refine x_istore (M := [some _, some _, some _, some _, some _, some _, some _, none, none, some _, none, none, none]) (pc := 357) C dL_law_357 (by decide) rfl ?_
  exact x_sub (x_wide (by omega) (by omega) (tL_law_359 C hr hR hend hK115 hU115 hK125 hU125 FU _ _ _ _ _ _ _ _ _ ⟨by omega, by omega⟩ h)) (xLe_s (xLe_s (xLe_s (xLe_s (xLe_s (xLe_s (xLe_s (xLe_n (xLe_n (xLe_s (xLe_n (xLe_n (xLe_n xLe_0)))))))))))))
def DL_law_224 (K115 : Nat → Nat → Nat → Nat → Int32 → Sg → Option (Int32 × Sg)) (K125 : Nat → Nat → Nat → Nat → Int32 → Int32 → Sg → Option (Int32 × Sg)) : Nat → Nat → Nat → Nat → Nat → Int32 → Int32 → Nat → Nat → Nat → Int32 → Sg → Option (Int32 × Sg)
  | 0, _, _, _, _, _, _, _, _, _, _, _ => none
  | n + 1, l0, l1, l2, l3, l4, l5, l6, l7, l8, l9, σ =>
    bnd (DL_coupons l0 l5 σ) fun v1 σ2 =>
    if v1 ≤ l9 then
      DL_law_356 K115 K125 l0 l1 l2 l3 l4 l5 l6 σ2
    else
      chk (ckO σ2 5 l1) <|
      bnd (DX7_straight l1 l5 l9 σ2) fun v3 σ4 =>
      chk (ckT2 σ2 σ4) <|
      chk (ckP σ4 6 2 l7) <|
      chk (ckV (gR σ4 l7 2)) <|
      chk (ckA σ4 2 (gR σ4 l7 2) l9) <|
      if v3 = (aI σ4 (gR σ4 l7 2) l9.toNatClampNeg) then
        chk (ckO σ4 5 l1) <|
        bnd (DX7_other l1 l5 l9 σ4) fun v5 σ6 =>
        chk (ckT2 σ4 σ6) <|
        chk (ckP σ6 6 2 l8) <|
        chk (ckV (gR σ6 l8 2)) <|
        chk (ckA σ6 2 (gR σ6 l8 2) l9) <|
        if v5 = (aI σ6 (gR σ6 l8 2) l9.toNatClampNeg) then
          chk (ckO σ6 5 l1) <|
          bnd (DX7_coupon l1 l5 l9 (4 : Int32) σ6) fun v7 σ8 =>
          chk (ckT2 σ6 σ8) <|
          bnd (DL_how l0 l5 σ8) fun v9 σ10 =>
          chk (ckB σ10 5 l2 l5) <|
          chk (ckV (gR σ10 l2 l5.toNatClampNeg)) <|
          chk (ckA σ10 2 (gR σ10 l2 l5.toNatClampNeg) l9) <|
          bnd (DL_at l0 l5 l9 σ10) fun v11 σ12 =>
          bnd (DL_at l0 l5 (l9 + (1 : Int32)) σ12) fun v13 σ14 =>
          bnd (DL_factor l0 v9 (aI σ10 (gR σ10 l2 l5.toNatClampNeg) l9.toNatClampNeg) v11 v13 σ14) fun v15 σ16 =>
          if v7.toInt64 = v15 then
            chk (ckO σ16 5 l1) <|
            bnd (DX7_coupon l1 l5 l9 (7 : Int32) σ16) fun v17 σ18 =>
            chk (ckT2 σ16 σ18) <|
            chk (ckB σ18 5 l2 l5) <|
            chk (ckV (gR σ18 l2 l5.toNatClampNeg)) <|
            bnd (DL_holds l0 l5 (gR σ18 l2 l5.toNatClampNeg) l9 (-1 : Int32) σ18) fun v19 σ20 =>
            if v17 = v19 then
              DL_law_224 K115 K125 n l0 l1 l2 l3 l4 l5 l6 l7 l8 (l9 + (1 : Int32)) σ20
            else
              DL_law_348 σ20
          else
            DL_law_348 σ16
        else
          DL_law_348 σ6
      else
        DL_law_348 σ4
theorem uL_law_224 {r : Int32} {σ' : Sg} {K115 : Nat → Nat → Nat → Nat → Int32 → Sg → Option (Int32 × Sg)} (hU115 : ∀ (l0 : Nat) (l1 : Nat) (l2 : Nat) (l3 : Nat) (l4 : Int32) (σ : Sg), K115 l0 l1 l2 l3 l4 σ = some (r, σ') → Mo σ σ') {K125 : Nat → Nat → Nat → Nat → Int32 → Int32 → Sg → Option (Int32 × Sg)} (hU125 : ∀ (l0 : Nat) (l1 : Nat) (l2 : Nat) (l3 : Nat) (l4 : Int32) (l5 : Int32) (σ : Sg), K125 l0 l1 l2 l3 l4 l5 σ = some (r, σ') → Mo σ σ') : ∀ (n : Nat) (l0 : Nat) (l1 : Nat) (l2 : Nat) (l3 : Nat) (l4 : Int32) (l5 : Int32) (l6 : Nat) (l7 : Nat) (l8 : Nat) (l9 : Int32) (σ : Sg) (h : DL_law_224 K115 K125 n l0 l1 l2 l3 l4 l5 l6 l7 l8 l9 σ = some (r, σ')), Mo σ σ' := by
  intro n
  induction n with
  | zero => intro l0 l1 l2 l3 l4 l5 l6 l7 l8 l9 σ h; cases h
  | succ n ih =>
    intro l0 l1 l2 l3 l4 l5 l6 l7 l8 l9 σ h
    unfold DL_law_224 at h
    obtain ⟨v1, σ2, k, h⟩ := bnd_s h
    obtain ⟨mσ2a, mσ2b⟩ := umL_coupons k
    by_cases q : v1 ≤ l9
    · rw [if_pos q] at h
      obtain ⟨mz1, mz2⟩ := uL_law_356 hU115 hU125 h
      exact ⟨by omega, by omega⟩
    · rw [if_neg q] at h
      obtain ⟨k, h⟩ := chk_s h
      obtain ⟨v3, σ4, k, h⟩ := bnd_s h
      obtain ⟨kt, h⟩ := chk_s h
      obtain ⟨mσ4a, mσ4b⟩ := ckT2_s kt
      obtain ⟨k, h⟩ := chk_s h
      obtain ⟨k, h⟩ := chk_s h
      obtain ⟨k, h⟩ := chk_s h
      by_cases q : v3 = (aI σ4 (gR σ4 l7 2) l9.toNatClampNeg)
      · rw [if_pos q] at h
        obtain ⟨k, h⟩ := chk_s h
        obtain ⟨v5, σ6, k, h⟩ := bnd_s h
        obtain ⟨kt, h⟩ := chk_s h
        obtain ⟨mσ6a, mσ6b⟩ := ckT2_s kt
        obtain ⟨k, h⟩ := chk_s h
        obtain ⟨k, h⟩ := chk_s h
        obtain ⟨k, h⟩ := chk_s h
        by_cases q : v5 = (aI σ6 (gR σ6 l8 2) l9.toNatClampNeg)
        · rw [if_pos q] at h
          obtain ⟨k, h⟩ := chk_s h
          obtain ⟨v7, σ8, k, h⟩ := bnd_s h
          obtain ⟨kt, h⟩ := chk_s h
          obtain ⟨mσ8a, mσ8b⟩ := ckT2_s kt
          obtain ⟨v9, σ10, k, h⟩ := bnd_s h
          obtain ⟨mσ10a, mσ10b⟩ := umL_how k
          obtain ⟨k, h⟩ := chk_s h
          obtain ⟨k, h⟩ := chk_s h
          obtain ⟨k, h⟩ := chk_s h
          obtain ⟨v11, σ12, k, h⟩ := bnd_s h
          obtain ⟨mσ12a, mσ12b⟩ := umL_at k
          obtain ⟨v13, σ14, k, h⟩ := bnd_s h
          obtain ⟨mσ14a, mσ14b⟩ := umL_at k
          obtain ⟨v15, σ16, k, h⟩ := bnd_s h
          obtain ⟨mσ16a, mσ16b⟩ := umL_factor k
          by_cases q : v7.toInt64 = v15
          · rw [if_pos q] at h
            obtain ⟨k, h⟩ := chk_s h
            obtain ⟨v17, σ18, k, h⟩ := bnd_s h
            obtain ⟨kt, h⟩ := chk_s h
            obtain ⟨mσ18a, mσ18b⟩ := ckT2_s kt
            obtain ⟨k, h⟩ := chk_s h
            obtain ⟨k, h⟩ := chk_s h
            obtain ⟨v19, σ20, k, h⟩ := bnd_s h
            obtain ⟨mσ20a, mσ20b⟩ := umL_holds k
            by_cases q : v17 = v19
            · rw [if_pos q] at h
              obtain ⟨mz1, mz2⟩ := ih _ _ _ _ _ _ _ _ _ _ _ h
              exact ⟨by omega, by omega⟩
            · rw [if_neg q] at h
              obtain ⟨mz1, mz2⟩ := uL_law_348 h
              exact ⟨by omega, by omega⟩
          · rw [if_neg q] at h
            obtain ⟨mz1, mz2⟩ := uL_law_348 h
            exact ⟨by omega, by omega⟩
        · rw [if_neg q] at h
          obtain ⟨mz1, mz2⟩ := uL_law_348 h
          exact ⟨by omega, by omega⟩
      · rw [if_neg q] at h
        obtain ⟨mz1, mz2⟩ := uL_law_348 h
        exact ⟨by omega, by omega⟩
theorem tL_law_224 {r : Int32} {σ' : Sg} (C : Cx E p s m args meth c "ProratesLaw" cL_law 13) (hr : meth.sig.returnType = (some .boolean)) (hR : RR R 10 (c0 + (gM σ' - gM σ0)) (z0 + (gZ σ' - gZ σ0))) (hend : ∀ (pc : Nat) (L : List (Option Value)), decode cL_law pc = .ok (.ireturn, 1) → X E p l e R s m args below meth c Q 13 (c0 + (gM σ' - gM σ0)) (z0 + (gZ σ' - gZ σ0)) σ' pc L [.int r]) {K115 : Nat → Nat → Nat → Nat → Int32 → Sg → Option (Int32 × Sg)} (hK115 : ∀ (l0 : Nat) (l1 : Nat) (l2 : Nat) (l3 : Nat) (l4 : Int32) (σ : Sg), Mo σ0 σ → K115 l0 l1 l2 l3 l4 σ = some (r, σ') → X E p l e R s m args below meth c Q 13 (c0 + (gM σ - gM σ0)) (z0 + (gZ σ - gZ σ0)) σ 115 [some (.ref (ad E l0)), some (.ref (ad E l1)), some (.ref (ad E l2)), some (.ref (ad E l3)), some (.int l4), none, none, none, none, none, none, none, none] []) (hU115 : ∀ (l0 : Nat) (l1 : Nat) (l2 : Nat) (l3 : Nat) (l4 : Int32) (σ : Sg), K115 l0 l1 l2 l3 l4 σ = some (r, σ') → Mo σ σ') {K125 : Nat → Nat → Nat → Nat → Int32 → Int32 → Sg → Option (Int32 × Sg)} (hK125 : ∀ (l0 : Nat) (l1 : Nat) (l2 : Nat) (l3 : Nat) (l4 : Int32) (l5 : Int32) (σ : Sg), Mo σ0 σ → K125 l0 l1 l2 l3 l4 l5 σ = some (r, σ') → X E p l e R s m args below meth c Q 13 (c0 + (gM σ - gM σ0)) (z0 + (gZ σ - gZ σ0)) σ 125 [some (.ref (ad E l0)), some (.ref (ad E l1)), some (.ref (ad E l2)), some (.ref (ad E l3)), some (.int l4), some (.int l5), none, none, none, none, none, none, none] []) (hU125 : ∀ (l0 : Nat) (l1 : Nat) (l2 : Nat) (l3 : Nat) (l4 : Int32) (l5 : Int32) (σ : Sg), K125 l0 l1 l2 l3 l4 l5 σ = some (r, σ') → Mo σ σ') : ∀ (n : Nat) (l0 : Nat) (l1 : Nat) (l2 : Nat) (l3 : Nat) (l4 : Int32) (l5 : Int32) (l6 : Nat) (l7 : Nat) (l8 : Nat) (l9 : Int32) (σ : Sg) (hm : Mo σ0 σ) (h : DL_law_224 K115 K125 n l0 l1 l2 l3 l4 l5 l6 l7 l8 l9 σ = some (r, σ')), X E p l e R s m args below meth c Q 13 (c0 + (gM σ - gM σ0)) (z0 + (gZ σ - gZ σ0)) σ 224 [some (.ref (ad E l0)), some (.ref (ad E l1)), some (.ref (ad E l2)), some (.ref (ad E l3)), some (.int l4), some (.int l5), some (.ref (ad E l6)), some (.ref (ad E l7)), some (.ref (ad E l8)), some (.int l9), none, none, none] [] := by
  intro n
  induction n with
  | zero => intro l0 l1 l2 l3 l4 l5 l6 l7 l8 l9 σ hm h; cases h
  | succ n ih =>
    intro l0 l1 l2 l3 l4 l5 l6 l7 l8 l9 σ hm h
    obtain ⟨my1, my2⟩ := uL_law_224 hU115 hU125 (n + 1) _ _ _ _ _ _ _ _ _ _ _ h
    unfold DL_law_224 at h
    obtain ⟨hm1, hm2⟩ := hm
    obtain ⟨hR1, hR2, hR3, hR4⟩ := id hR
    refine x_iload (pc := 224) C dL_law_224 rfl ?_
    refine x_aload_n (pc := 226) C dL_law_226 rfl rfl ?_
    refine x_iload (pc := 227) C dL_law_227 rfl ?_
    obtain ⟨v1, σ2, k, h⟩ := bnd_s h
    obtain ⟨mσ2a, mσ2b⟩ := umL_coupons k
    refine x_callS1 (pc := 229) C (mL_coupons E l k) cL_151 zL_coupons rfl rfl (Nat.le_of_ble_eq_true rfl) ⟨(Nat.le_trans (Nat.le_of_ble_eq_true rfl) hR1), (Nat.le_trans (m := 40 * 10) (Nat.le_of_ble_eq_true rfl) hR2), by omega, by omega⟩ dL_law_229 ?_
    refine x_icmp_ge (pc := 232) (tgt := 356) C dL_law_232 (by decide) (fun q => ?_) (fun q => ?_)
    · rw [if_pos q] at h
      exact x_sub (x_wide (by omega) (by omega) (tL_law_356 C hr hR hend hK115 hU115 hK125 hU125 ⟨by omega, by omega⟩ h)) (xLe_s (xLe_s (xLe_s (xLe_s (xLe_s (xLe_s (xLe_s (xLe_n (xLe_n (xLe_n (xLe_n (xLe_n (xLe_n xLe_0)))))))))))))
    · rw [if_neg q] at h
      refine x_aload_n (pc := 235) C dL_law_235 rfl rfl ?_
      refine x_iload (pc := 236) C dL_law_236 rfl ?_
      refine x_iload (pc := 238) C dL_law_238 rfl ?_
      obtain ⟨k, h⟩ := chk_s h
      have k2 := k
      obtain ⟨v3, σ4, k, h⟩ := bnd_s h
      obtain ⟨kt, h⟩ := chk_s h
      obtain ⟨mσ4a, mσ4b⟩ := ckT2_s kt
      refine x_callV1 (pc := 240) C (mX7_straight E l k) cl5 k2 cL_266 nX7_straight sX7_straight rfl rfl (Nat.le_of_ble_eq_true rfl) ⟨(Nat.le_trans (Nat.le_of_ble_eq_true rfl) hR1), (Nat.le_trans (m := 40 * 10) (Nat.le_of_ble_eq_true rfl) hR2), by omega, by omega⟩ dL_law_240 ?_
      refine x_aload (pc := 243) C dL_law_243 rfl ?_
      obtain ⟨k, h⟩ := chk_s h
      have k2 := k
      obtain ⟨k, h⟩ := chk_s h
      refine x_dgetR (pc := 245) C fdL_206 rfl k2 k dL_law_245 ?_
      refine x_iload (pc := 248) C dL_law_248 rfl ?_
      obtain ⟨k, h⟩ := chk_s h
      refine x_diald (pc := 250) C k dL_law_250 ?_
      refine x_icmp_ne (pc := 251) (tgt := 348) C dL_law_251 (by decide) (fun q => ?_) (fun q => ?_)
      · rw [if_pos q] at h
        refine x_aload_n (pc := 254) C dL_law_254 rfl rfl ?_
        refine x_iload (pc := 255) C dL_law_255 rfl ?_
        refine x_iload (pc := 257) C dL_law_257 rfl ?_
        obtain ⟨k, h⟩ := chk_s h
        have k2 := k
        obtain ⟨v5, σ6, k, h⟩ := bnd_s h
        obtain ⟨kt, h⟩ := chk_s h
        obtain ⟨mσ6a, mσ6b⟩ := ckT2_s kt
        refine x_callV1 (pc := 259) C (mX7_other E l k) cl5 k2 cL_269 nX7_other sX7_other rfl rfl (Nat.le_of_ble_eq_true rfl) ⟨(Nat.le_trans (Nat.le_of_ble_eq_true rfl) hR1), (Nat.le_trans (m := 40 * 10) (Nat.le_of_ble_eq_true rfl) hR2), by omega, by omega⟩ dL_law_259 ?_
        refine x_aload (pc := 262) C dL_law_262 rfl ?_
        obtain ⟨k, h⟩ := chk_s h
        have k2 := k
        obtain ⟨k, h⟩ := chk_s h
        refine x_dgetR (pc := 264) C fdL_206 rfl k2 k dL_law_264 ?_
        refine x_iload (pc := 267) C dL_law_267 rfl ?_
        obtain ⟨k, h⟩ := chk_s h
        refine x_diald (pc := 269) C k dL_law_269 ?_
        refine x_icmp_ne (pc := 270) (tgt := 348) C dL_law_270 (by decide) (fun q => ?_) (fun q => ?_)
        · rw [if_pos q] at h
          refine x_aload_n (pc := 273) C dL_law_273 rfl rfl ?_
          refine x_iload (pc := 274) C dL_law_274 rfl ?_
          refine x_iload (pc := 276) C dL_law_276 rfl ?_
          refine x_iconst (v := 4) (pc := 278) C dL_law_278 (by decide) ?_
          obtain ⟨k, h⟩ := chk_s h
          have k2 := k
          obtain ⟨v7, σ8, k, h⟩ := bnd_s h
          obtain ⟨kt, h⟩ := chk_s h
          obtain ⟨mσ8a, mσ8b⟩ := ckT2_s kt
          refine x_callV1 (pc := 279) C (mX7_coupon E l k) cl5 k2 cL_239 nX7_coupon sX7_coupon rfl rfl (Nat.le_of_ble_eq_true rfl) ⟨(Nat.le_trans (Nat.le_of_ble_eq_true rfl) hR1), (Nat.le_trans (m := 40 * 10) (Nat.le_of_ble_eq_true rfl) hR2), by omega, by omega⟩ dL_law_279 ?_
          refine x_i2l (pc := 282) C dL_law_282 ?_
          refine x_aload_n (pc := 283) C dL_law_283 rfl rfl ?_
          refine x_aload_n (pc := 284) C dL_law_284 rfl rfl ?_
          refine x_iload (pc := 285) C dL_law_285 rfl ?_
          obtain ⟨v9, σ10, k, h⟩ := bnd_s h
          obtain ⟨mσ10a, mσ10b⟩ := umL_how k
          refine x_callS1 (pc := 287) C (mL_how E l k) cL_141 zL_how rfl rfl (Nat.le_of_ble_eq_true rfl) ⟨(Nat.le_trans (Nat.le_of_ble_eq_true rfl) hR1), (Nat.le_trans (m := 40 * 10) (Nat.le_of_ble_eq_true rfl) hR2), by omega, by omega⟩ dL_law_287 ?_
          refine x_aload_n (pc := 290) C dL_law_290 rfl rfl ?_
          refine x_iload (pc := 291) C dL_law_291 rfl ?_
          obtain ⟨k, h⟩ := chk_s h
          have k2 := k
          obtain ⟨k, h⟩ := chk_s h
          refine x_daald (pc := 293) C k2 k dL_law_293 ?_
          refine x_iload (pc := 294) C dL_law_294 rfl ?_
          obtain ⟨k, h⟩ := chk_s h
          refine x_diald (pc := 296) C k dL_law_296 ?_
          refine x_aload_n (pc := 297) C dL_law_297 rfl rfl ?_
          refine x_iload (pc := 298) C dL_law_298 rfl ?_
          refine x_iload (pc := 300) C dL_law_300 rfl ?_
          obtain ⟨v11, σ12, k, h⟩ := bnd_s h
          obtain ⟨mσ12a, mσ12b⟩ := umL_at k
          refine x_callS1 (pc := 302) C (mL_at E l k) cL_148 zL_at rfl rfl (Nat.le_of_ble_eq_true rfl) ⟨(Nat.le_trans (Nat.le_of_ble_eq_true rfl) hR1), (Nat.le_trans (m := 40 * 10) (Nat.le_of_ble_eq_true rfl) hR2), by omega, by omega⟩ dL_law_302 ?_
          refine x_aload_n (pc := 305) C dL_law_305 rfl rfl ?_
          refine x_iload (pc := 306) C dL_law_306 rfl ?_
          refine x_iload (pc := 308) C dL_law_308 rfl ?_
          refine x_iconst (v := 1) (pc := 310) C dL_law_310 (by decide) ?_
          refine x_iadd (pc := 311) C dL_law_311 ?_
          obtain ⟨v13, σ14, k, h⟩ := bnd_s h
          obtain ⟨mσ14a, mσ14b⟩ := umL_at k
          refine x_callS1 (pc := 312) C (mL_at E l k) cL_148 zL_at rfl rfl (Nat.le_of_ble_eq_true rfl) ⟨(Nat.le_trans (Nat.le_of_ble_eq_true rfl) hR1), (Nat.le_trans (m := 40 * 10) (Nat.le_of_ble_eq_true rfl) hR2), by omega, by omega⟩ dL_law_312 ?_
          obtain ⟨v15, σ16, k, h⟩ := bnd_s h
          obtain ⟨mσ16a, mσ16b⟩ := umL_factor k
          refine x_callS1 (pc := 315) C (mL_factor E l k) cL_196 zL_factor rfl rfl (Nat.le_of_ble_eq_true rfl) ⟨(Nat.le_trans (Nat.le_of_ble_eq_true rfl) hR1), (Nat.le_trans (m := 40 * 10) (Nat.le_of_ble_eq_true rfl) hR2), by omega, by omega⟩ dL_law_315 ?_
          refine x_lcmp (pc := 318) C dL_law_318 ?_
          refine x_lif_ne (pc := 319) (tgt := 348) C dL_law_319 (by decide) (fun q => ?_) (fun q => ?_)
          · rw [if_pos q] at h
            refine x_aload_n (pc := 322) C dL_law_322 rfl rfl ?_
            refine x_iload (pc := 323) C dL_law_323 rfl ?_
            refine x_iload (pc := 325) C dL_law_325 rfl ?_
            refine x_bipush (v := 7) (pc := 327) C dL_law_327 (by decide) ?_
            obtain ⟨k, h⟩ := chk_s h
            have k2 := k
            obtain ⟨v17, σ18, k, h⟩ := bnd_s h
            obtain ⟨kt, h⟩ := chk_s h
            obtain ⟨mσ18a, mσ18b⟩ := ckT2_s kt
            refine x_callV1 (pc := 329) C (mX7_coupon E l k) cl5 k2 cL_239 nX7_coupon sX7_coupon rfl rfl (Nat.le_of_ble_eq_true rfl) ⟨(Nat.le_trans (Nat.le_of_ble_eq_true rfl) hR1), (Nat.le_trans (m := 40 * 10) (Nat.le_of_ble_eq_true rfl) hR2), by omega, by omega⟩ dL_law_329 ?_
            refine x_aload_n (pc := 332) C dL_law_332 rfl rfl ?_
            refine x_iload (pc := 333) C dL_law_333 rfl ?_
            refine x_aload_n (pc := 335) C dL_law_335 rfl rfl ?_
            refine x_iload (pc := 336) C dL_law_336 rfl ?_
            obtain ⟨k, h⟩ := chk_s h
            have k2 := k
            obtain ⟨k, h⟩ := chk_s h
            refine x_daald (pc := 338) C k2 k dL_law_338 ?_
            refine x_iload (pc := 339) C dL_law_339 rfl ?_
            refine x_iconst (v := -1) (pc := 341) C dL_law_341 (by decide) ?_
            obtain ⟨v19, σ20, k, h⟩ := bnd_s h
            obtain ⟨mσ20a, mσ20b⟩ := umL_holds k
            refine x_callS1 (pc := 342) C (mL_holds E l k) cL_200 zL_holds rfl rfl (Nat.le_of_ble_eq_true rfl) ⟨(Nat.le_trans (Nat.le_of_ble_eq_true rfl) hR1), (Nat.le_trans (m := 40 * 10) (Nat.le_of_ble_eq_true rfl) hR2), by omega, by omega⟩ dL_law_342 ?_
            refine x_icmp_eq (pc := 345) (tgt := 350) C dL_law_345 (by decide) (fun q => ?_) (fun q => ?_)
            · rw [if_pos q] at h
              refine x_iinc (v := 1) (M := [some _, some _, some _, some _, some _, some _, some _, some _, some _, some _, none, none, none]) (pc := 350) C dL_law_350 rfl (by decide) (by decide) rfl ?_
              refine x_goto (tgt := 224) (pc := 353) C dL_law_353 (by decide) ?_
              exact x_sub (x_wide (by omega) (by omega) (ih _ _ _ _ _ _ _ _ _ _ _ ⟨by omega, by omega⟩ h)) (xLe_s (xLe_s (xLe_s (xLe_s (xLe_s (xLe_s (xLe_s (xLe_s (xLe_s (xLe_s (xLe_n (xLe_n (xLe_n xLe_0)))))))))))))
            · rw [if_neg q] at h
              exact x_sub (x_wide (by omega) (by omega) (tL_law_348 C hr hR hend ⟨by omega, by omega⟩ h)) (xLe_n (xLe_n (xLe_n (xLe_n (xLe_n (xLe_n (xLe_n (xLe_n (xLe_n (xLe_n (xLe_n (xLe_n (xLe_n xLe_0)))))))))))))
          · rw [if_neg q] at h
            exact x_sub (x_wide (by omega) (by omega) (tL_law_348 C hr hR hend ⟨by omega, by omega⟩ h)) (xLe_n (xLe_n (xLe_n (xLe_n (xLe_n (xLe_n (xLe_n (xLe_n (xLe_n (xLe_n (xLe_n (xLe_n (xLe_n xLe_0)))))))))))))
        · rw [if_neg q] at h
          exact x_sub (x_wide (by omega) (by omega) (tL_law_348 C hr hR hend ⟨by omega, by omega⟩ h)) (xLe_n (xLe_n (xLe_n (xLe_n (xLe_n (xLe_n (xLe_n (xLe_n (xLe_n (xLe_n (xLe_n (xLe_n (xLe_n xLe_0)))))))))))))
      · rw [if_neg q] at h
        exact x_sub (x_wide (by omega) (by omega) (tL_law_348 C hr hR hend ⟨by omega, by omega⟩ h)) (xLe_n (xLe_n (xLe_n (xLe_n (xLe_n (xLe_n (xLe_n (xLe_n (xLe_n (xLe_n (xLe_n (xLe_n (xLe_n xLe_0)))))))))))))
def DL_law_219 (K115 : Nat → Nat → Nat → Nat → Int32 → Sg → Option (Int32 × Sg)) (K125 : Nat → Nat → Nat → Nat → Int32 → Int32 → Sg → Option (Int32 × Sg)) (l0 : Nat) (l1 : Nat) (l2 : Nat) (l3 : Nat) (l4 : Int32) (l5 : Int32) (l6 : Nat) (l7 : Nat) (s0 : Nat) (σ : Sg) : Option (Int32 × Sg) :=
  DL_law_224 K115 K125 FU l0 l1 l2 l3 l4 l5 l6 l7 s0 (0 : Int32) σ
theorem uL_law_219 {r : Int32} {σ' : Sg} {K115 : Nat → Nat → Nat → Nat → Int32 → Sg → Option (Int32 × Sg)} (hU115 : ∀ (l0 : Nat) (l1 : Nat) (l2 : Nat) (l3 : Nat) (l4 : Int32) (σ : Sg), K115 l0 l1 l2 l3 l4 σ = some (r, σ') → Mo σ σ') {K125 : Nat → Nat → Nat → Nat → Int32 → Int32 → Sg → Option (Int32 × Sg)} (hU125 : ∀ (l0 : Nat) (l1 : Nat) (l2 : Nat) (l3 : Nat) (l4 : Int32) (l5 : Int32) (σ : Sg), K125 l0 l1 l2 l3 l4 l5 σ = some (r, σ') → Mo σ σ') {l0 : Nat} {l1 : Nat} {l2 : Nat} {l3 : Nat} {l4 : Int32} {l5 : Int32} {l6 : Nat} {l7 : Nat} {s0 : Nat} {σ : Sg} (h : DL_law_219 K115 K125 l0 l1 l2 l3 l4 l5 l6 l7 s0 σ = some (r, σ')) : Mo σ σ' := by
  unfold DL_law_219 at h
  obtain ⟨mz1, mz2⟩ := uL_law_224 hU115 hU125 FU _ _ _ _ _ _ _ _ _ _ _ h
  exact ⟨by omega, by omega⟩
theorem tL_law_219 {r : Int32} {σ' : Sg} (C : Cx E p s m args meth c "ProratesLaw" cL_law 13) (hr : meth.sig.returnType = (some .boolean)) (hR : RR R 10 (c0 + (gM σ' - gM σ0)) (z0 + (gZ σ' - gZ σ0))) (hend : ∀ (pc : Nat) (L : List (Option Value)), decode cL_law pc = .ok (.ireturn, 1) → X E p l e R s m args below meth c Q 13 (c0 + (gM σ' - gM σ0)) (z0 + (gZ σ' - gZ σ0)) σ' pc L [.int r]) {K115 : Nat → Nat → Nat → Nat → Int32 → Sg → Option (Int32 × Sg)} (hK115 : ∀ (l0 : Nat) (l1 : Nat) (l2 : Nat) (l3 : Nat) (l4 : Int32) (σ : Sg), Mo σ0 σ → K115 l0 l1 l2 l3 l4 σ = some (r, σ') → X E p l e R s m args below meth c Q 13 (c0 + (gM σ - gM σ0)) (z0 + (gZ σ - gZ σ0)) σ 115 [some (.ref (ad E l0)), some (.ref (ad E l1)), some (.ref (ad E l2)), some (.ref (ad E l3)), some (.int l4), none, none, none, none, none, none, none, none] []) (hU115 : ∀ (l0 : Nat) (l1 : Nat) (l2 : Nat) (l3 : Nat) (l4 : Int32) (σ : Sg), K115 l0 l1 l2 l3 l4 σ = some (r, σ') → Mo σ σ') {K125 : Nat → Nat → Nat → Nat → Int32 → Int32 → Sg → Option (Int32 × Sg)} (hK125 : ∀ (l0 : Nat) (l1 : Nat) (l2 : Nat) (l3 : Nat) (l4 : Int32) (l5 : Int32) (σ : Sg), Mo σ0 σ → K125 l0 l1 l2 l3 l4 l5 σ = some (r, σ') → X E p l e R s m args below meth c Q 13 (c0 + (gM σ - gM σ0)) (z0 + (gZ σ - gZ σ0)) σ 125 [some (.ref (ad E l0)), some (.ref (ad E l1)), some (.ref (ad E l2)), some (.ref (ad E l3)), some (.int l4), some (.int l5), none, none, none, none, none, none, none] []) (hU125 : ∀ (l0 : Nat) (l1 : Nat) (l2 : Nat) (l3 : Nat) (l4 : Int32) (l5 : Int32) (σ : Sg), K125 l0 l1 l2 l3 l4 l5 σ = some (r, σ') → Mo σ σ') {l0 : Nat} {l1 : Nat} {l2 : Nat} {l3 : Nat} {l4 : Int32} {l5 : Int32} {l6 : Nat} {l7 : Nat} {s0 : Nat} {σ : Sg} (hm : Mo σ0 σ) (h : DL_law_219 K115 K125 l0 l1 l2 l3 l4 l5 l6 l7 s0 σ = some (r, σ')) : X E p l e R s m args below meth c Q 13 (c0 + (gM σ - gM σ0)) (z0 + (gZ σ - gZ σ0)) σ 219 [some (.ref (ad E l0)), some (.ref (ad E l1)), some (.ref (ad E l2)), some (.ref (ad E l3)), some (.int l4), some (.int l5), some (.ref (ad E l6)), some (.ref (ad E l7)), none, none, none, none, none] [.ref (ad E s0)] := by
  obtain ⟨my1, my2⟩ := uL_law_219 hU115 hU125 h
  unfold DL_law_219 at h
  obtain ⟨hm1, hm2⟩ := hm
  obtain ⟨hR1, hR2, hR3, hR4⟩ := id hR
  refine x_astore (M := [some _, some _, some _, some _, some _, some _, some _, some _, some _, none, none, none, none]) (pc := 219) C dL_law_219 (by decide) rfl ?_
  refine x_iconst (v := 0) (pc := 221) C dL_law_221 (by decide) ?_
  refine x_istore (M := [some _, some _, some _, some _, some _, some _, some _, some _, some _, some _, none, none, none]) (pc := 222) C dL_law_222 (by decide) rfl ?_
  exact x_sub (x_wide (by omega) (by omega) (tL_law_224 C hr hR hend hK115 hU115 hK125 hU125 FU _ _ _ _ _ _ _ _ _ _ _ ⟨by omega, by omega⟩ h)) (xLe_s (xLe_s (xLe_s (xLe_s (xLe_s (xLe_s (xLe_s (xLe_s (xLe_s (xLe_s (xLe_n (xLe_n (xLe_n xLe_0)))))))))))))
def DL_law_193 (K115 : Nat → Nat → Nat → Nat → Int32 → Sg → Option (Int32 × Sg)) (K125 : Nat → Nat → Nat → Nat → Int32 → Int32 → Sg → Option (Int32 × Sg)) (l0 : Nat) (l1 : Nat) (l2 : Nat) (l3 : Nat) (l4 : Int32) (l5 : Int32) (l6 : Nat) (s0 : Nat) (σ : Sg) : Option (Int32 × Sg) :=
  bnd (DL_how l0 l5 σ) fun v1 σ2 =>
  chk (ckB σ2 5 l2 l5) <|
  chk (ckV (gR σ2 l2 l5.toNatClampNeg)) <|
  chk (ckB σ2 5 l3 l5) <|
  chk (ckV (gR σ2 l3 l5.toNatClampNeg)) <|
  bnd (DL_found l0 l5 ((1 : Int32) - v1) (gR σ2 l2 l5.toNatClampNeg) (gR σ2 l3 l5.toNatClampNeg) (-1 : Int32) (0 : Int32) σ2) fun v3 σ4 =>
  DL_law_219 K115 K125 l0 l1 l2 l3 l4 l5 l6 s0 v3 σ4
theorem uL_law_193 {r : Int32} {σ' : Sg} {K115 : Nat → Nat → Nat → Nat → Int32 → Sg → Option (Int32 × Sg)} (hU115 : ∀ (l0 : Nat) (l1 : Nat) (l2 : Nat) (l3 : Nat) (l4 : Int32) (σ : Sg), K115 l0 l1 l2 l3 l4 σ = some (r, σ') → Mo σ σ') {K125 : Nat → Nat → Nat → Nat → Int32 → Int32 → Sg → Option (Int32 × Sg)} (hU125 : ∀ (l0 : Nat) (l1 : Nat) (l2 : Nat) (l3 : Nat) (l4 : Int32) (l5 : Int32) (σ : Sg), K125 l0 l1 l2 l3 l4 l5 σ = some (r, σ') → Mo σ σ') {l0 : Nat} {l1 : Nat} {l2 : Nat} {l3 : Nat} {l4 : Int32} {l5 : Int32} {l6 : Nat} {s0 : Nat} {σ : Sg} (h : DL_law_193 K115 K125 l0 l1 l2 l3 l4 l5 l6 s0 σ = some (r, σ')) : Mo σ σ' := by
  unfold DL_law_193 at h
  obtain ⟨v1, σ2, k, h⟩ := bnd_s h
  obtain ⟨mσ2a, mσ2b⟩ := umL_how k
  obtain ⟨k, h⟩ := chk_s h
  obtain ⟨k, h⟩ := chk_s h
  obtain ⟨k, h⟩ := chk_s h
  obtain ⟨k, h⟩ := chk_s h
  obtain ⟨v3, σ4, k, h⟩ := bnd_s h
  obtain ⟨mσ4a, mσ4b⟩ := umL_found k
  obtain ⟨mz1, mz2⟩ := uL_law_219 hU115 hU125 h
  exact ⟨by omega, by omega⟩
theorem tL_law_193 {r : Int32} {σ' : Sg} (C : Cx E p s m args meth c "ProratesLaw" cL_law 13) (hr : meth.sig.returnType = (some .boolean)) (hR : RR R 10 (c0 + (gM σ' - gM σ0)) (z0 + (gZ σ' - gZ σ0))) (hend : ∀ (pc : Nat) (L : List (Option Value)), decode cL_law pc = .ok (.ireturn, 1) → X E p l e R s m args below meth c Q 13 (c0 + (gM σ' - gM σ0)) (z0 + (gZ σ' - gZ σ0)) σ' pc L [.int r]) {K115 : Nat → Nat → Nat → Nat → Int32 → Sg → Option (Int32 × Sg)} (hK115 : ∀ (l0 : Nat) (l1 : Nat) (l2 : Nat) (l3 : Nat) (l4 : Int32) (σ : Sg), Mo σ0 σ → K115 l0 l1 l2 l3 l4 σ = some (r, σ') → X E p l e R s m args below meth c Q 13 (c0 + (gM σ - gM σ0)) (z0 + (gZ σ - gZ σ0)) σ 115 [some (.ref (ad E l0)), some (.ref (ad E l1)), some (.ref (ad E l2)), some (.ref (ad E l3)), some (.int l4), none, none, none, none, none, none, none, none] []) (hU115 : ∀ (l0 : Nat) (l1 : Nat) (l2 : Nat) (l3 : Nat) (l4 : Int32) (σ : Sg), K115 l0 l1 l2 l3 l4 σ = some (r, σ') → Mo σ σ') {K125 : Nat → Nat → Nat → Nat → Int32 → Int32 → Sg → Option (Int32 × Sg)} (hK125 : ∀ (l0 : Nat) (l1 : Nat) (l2 : Nat) (l3 : Nat) (l4 : Int32) (l5 : Int32) (σ : Sg), Mo σ0 σ → K125 l0 l1 l2 l3 l4 l5 σ = some (r, σ') → X E p l e R s m args below meth c Q 13 (c0 + (gM σ - gM σ0)) (z0 + (gZ σ - gZ σ0)) σ 125 [some (.ref (ad E l0)), some (.ref (ad E l1)), some (.ref (ad E l2)), some (.ref (ad E l3)), some (.int l4), some (.int l5), none, none, none, none, none, none, none] []) (hU125 : ∀ (l0 : Nat) (l1 : Nat) (l2 : Nat) (l3 : Nat) (l4 : Int32) (l5 : Int32) (σ : Sg), K125 l0 l1 l2 l3 l4 l5 σ = some (r, σ') → Mo σ σ') {l0 : Nat} {l1 : Nat} {l2 : Nat} {l3 : Nat} {l4 : Int32} {l5 : Int32} {l6 : Nat} {s0 : Nat} {σ : Sg} (hm : Mo σ0 σ) (h : DL_law_193 K115 K125 l0 l1 l2 l3 l4 l5 l6 s0 σ = some (r, σ')) : X E p l e R s m args below meth c Q 13 (c0 + (gM σ - gM σ0)) (z0 + (gZ σ - gZ σ0)) σ 193 [some (.ref (ad E l0)), some (.ref (ad E l1)), some (.ref (ad E l2)), some (.ref (ad E l3)), some (.int l4), some (.int l5), some (.ref (ad E l6)), none, none, none, none, none, none] [.ref (ad E s0)] := by
  obtain ⟨my1, my2⟩ := uL_law_193 hU115 hU125 h
  unfold DL_law_193 at h
  obtain ⟨hm1, hm2⟩ := hm
  obtain ⟨hR1, hR2, hR3, hR4⟩ := id hR
  refine x_astore (M := [some _, some _, some _, some _, some _, some _, some _, some _, none, none, none, none, none]) (pc := 193) C dL_law_193 (by decide) rfl ?_
  refine x_aload_n (pc := 195) C dL_law_195 rfl rfl ?_
  refine x_iload (pc := 196) C dL_law_196 rfl ?_
  refine x_iconst (v := 1) (pc := 198) C dL_law_198 (by decide) ?_
  refine x_aload_n (pc := 199) C dL_law_199 rfl rfl ?_
  refine x_iload (pc := 200) C dL_law_200 rfl ?_
  obtain ⟨v1, σ2, k, h⟩ := bnd_s h
  obtain ⟨mσ2a, mσ2b⟩ := umL_how k
  refine x_callS1 (pc := 202) C (mL_how E l k) cL_141 zL_how rfl rfl (Nat.le_of_ble_eq_true rfl) ⟨(Nat.le_trans (Nat.le_of_ble_eq_true rfl) hR1), (Nat.le_trans (m := 40 * 10) (Nat.le_of_ble_eq_true rfl) hR2), by omega, by omega⟩ dL_law_202 ?_
  refine x_isub (pc := 205) C dL_law_205 ?_
  refine x_aload_n (pc := 206) C dL_law_206 rfl rfl ?_
  refine x_iload (pc := 207) C dL_law_207 rfl ?_
  obtain ⟨k, h⟩ := chk_s h
  have k2 := k
  obtain ⟨k, h⟩ := chk_s h
  refine x_daald (pc := 209) C k2 k dL_law_209 ?_
  refine x_aload_n (pc := 210) C dL_law_210 rfl rfl ?_
  refine x_iload (pc := 211) C dL_law_211 rfl ?_
  obtain ⟨k, h⟩ := chk_s h
  have k2 := k
  obtain ⟨k, h⟩ := chk_s h
  refine x_daald (pc := 213) C k2 k dL_law_213 ?_
  refine x_iconst (v := -1) (pc := 214) C dL_law_214 (by decide) ?_
  refine x_iconst (v := 0) (pc := 215) C dL_law_215 (by decide) ?_
  obtain ⟨v3, σ4, k, h⟩ := bnd_s h
  obtain ⟨mσ4a, mσ4b⟩ := umL_found k
  obtain ⟨mz1, mz2⟩ := uL_law_219 hU115 hU125 h
  refine x_callS1 (pc := 216) C (mL_found E l k) cL_258 zL_found rfl rfl (Nat.le_of_ble_eq_true rfl) ⟨(Nat.le_trans (Nat.le_of_ble_eq_true rfl) hR1), (Nat.le_trans (m := 40 * 10) (Nat.le_of_ble_eq_true rfl) hR2), by omega, by omega⟩ dL_law_216 ?_
  exact x_sub (x_wide (by omega) (by omega) (tL_law_219 C hr hR hend hK115 hU115 hK125 hU125 ⟨by omega, by omega⟩ h)) (xLe_s (xLe_s (xLe_s (xLe_s (xLe_s (xLe_s (xLe_s (xLe_s (xLe_n (xLe_n (xLe_n (xLe_n (xLe_n xLe_0)))))))))))))
def DL_law_156 (K115 : Nat → Nat → Nat → Nat → Int32 → Sg → Option (Int32 × Sg)) (K125 : Nat → Nat → Nat → Nat → Int32 → Int32 → Sg → Option (Int32 × Sg)) (l0 : Nat) (l1 : Nat) (l2 : Nat) (l3 : Nat) (l4 : Int32) (l5 : Int32) (s0 : Nat) (σ : Sg) : Option (Int32 × Sg) :=
  bnd (DL_isLike l1 l5 s0 σ) fun v1 σ2 =>
  if v1 = 0 then
    DL_law_169 σ2
  else
    bnd (DL_how l0 l5 σ2) fun v3 σ4 =>
    chk (ckB σ4 5 l2 l5) <|
    chk (ckV (gR σ4 l2 l5.toNatClampNeg)) <|
    chk (ckB σ4 5 l3 l5) <|
    chk (ckV (gR σ4 l3 l5.toNatClampNeg)) <|
    bnd (DL_found l0 l5 v3 (gR σ4 l2 l5.toNatClampNeg) (gR σ4 l3 l5.toNatClampNeg) (-1 : Int32) (1 : Int32) σ4) fun v5 σ6 =>
    DL_law_193 K115 K125 l0 l1 l2 l3 l4 l5 s0 v5 σ6
theorem uL_law_156 {r : Int32} {σ' : Sg} {K115 : Nat → Nat → Nat → Nat → Int32 → Sg → Option (Int32 × Sg)} (hU115 : ∀ (l0 : Nat) (l1 : Nat) (l2 : Nat) (l3 : Nat) (l4 : Int32) (σ : Sg), K115 l0 l1 l2 l3 l4 σ = some (r, σ') → Mo σ σ') {K125 : Nat → Nat → Nat → Nat → Int32 → Int32 → Sg → Option (Int32 × Sg)} (hU125 : ∀ (l0 : Nat) (l1 : Nat) (l2 : Nat) (l3 : Nat) (l4 : Int32) (l5 : Int32) (σ : Sg), K125 l0 l1 l2 l3 l4 l5 σ = some (r, σ') → Mo σ σ') {l0 : Nat} {l1 : Nat} {l2 : Nat} {l3 : Nat} {l4 : Int32} {l5 : Int32} {s0 : Nat} {σ : Sg} (h : DL_law_156 K115 K125 l0 l1 l2 l3 l4 l5 s0 σ = some (r, σ')) : Mo σ σ' := by
  unfold DL_law_156 at h
  obtain ⟨v1, σ2, k, h⟩ := bnd_s h
  obtain ⟨mσ2a, mσ2b⟩ := umL_isLike k
  by_cases q : v1 = 0
  · rw [if_pos q] at h
    obtain ⟨mz1, mz2⟩ := uL_law_169 h
    exact ⟨by omega, by omega⟩
  · rw [if_neg q] at h
    obtain ⟨v3, σ4, k, h⟩ := bnd_s h
    obtain ⟨mσ4a, mσ4b⟩ := umL_how k
    obtain ⟨k, h⟩ := chk_s h
    obtain ⟨k, h⟩ := chk_s h
    obtain ⟨k, h⟩ := chk_s h
    obtain ⟨k, h⟩ := chk_s h
    obtain ⟨v5, σ6, k, h⟩ := bnd_s h
    obtain ⟨mσ6a, mσ6b⟩ := umL_found k
    obtain ⟨mz1, mz2⟩ := uL_law_193 hU115 hU125 h
    exact ⟨by omega, by omega⟩
theorem tL_law_156 {r : Int32} {σ' : Sg} (C : Cx E p s m args meth c "ProratesLaw" cL_law 13) (hr : meth.sig.returnType = (some .boolean)) (hR : RR R 10 (c0 + (gM σ' - gM σ0)) (z0 + (gZ σ' - gZ σ0))) (hend : ∀ (pc : Nat) (L : List (Option Value)), decode cL_law pc = .ok (.ireturn, 1) → X E p l e R s m args below meth c Q 13 (c0 + (gM σ' - gM σ0)) (z0 + (gZ σ' - gZ σ0)) σ' pc L [.int r]) {K115 : Nat → Nat → Nat → Nat → Int32 → Sg → Option (Int32 × Sg)} (hK115 : ∀ (l0 : Nat) (l1 : Nat) (l2 : Nat) (l3 : Nat) (l4 : Int32) (σ : Sg), Mo σ0 σ → K115 l0 l1 l2 l3 l4 σ = some (r, σ') → X E p l e R s m args below meth c Q 13 (c0 + (gM σ - gM σ0)) (z0 + (gZ σ - gZ σ0)) σ 115 [some (.ref (ad E l0)), some (.ref (ad E l1)), some (.ref (ad E l2)), some (.ref (ad E l3)), some (.int l4), none, none, none, none, none, none, none, none] []) (hU115 : ∀ (l0 : Nat) (l1 : Nat) (l2 : Nat) (l3 : Nat) (l4 : Int32) (σ : Sg), K115 l0 l1 l2 l3 l4 σ = some (r, σ') → Mo σ σ') {K125 : Nat → Nat → Nat → Nat → Int32 → Int32 → Sg → Option (Int32 × Sg)} (hK125 : ∀ (l0 : Nat) (l1 : Nat) (l2 : Nat) (l3 : Nat) (l4 : Int32) (l5 : Int32) (σ : Sg), Mo σ0 σ → K125 l0 l1 l2 l3 l4 l5 σ = some (r, σ') → X E p l e R s m args below meth c Q 13 (c0 + (gM σ - gM σ0)) (z0 + (gZ σ - gZ σ0)) σ 125 [some (.ref (ad E l0)), some (.ref (ad E l1)), some (.ref (ad E l2)), some (.ref (ad E l3)), some (.int l4), some (.int l5), none, none, none, none, none, none, none] []) (hU125 : ∀ (l0 : Nat) (l1 : Nat) (l2 : Nat) (l3 : Nat) (l4 : Int32) (l5 : Int32) (σ : Sg), K125 l0 l1 l2 l3 l4 l5 σ = some (r, σ') → Mo σ σ') {l0 : Nat} {l1 : Nat} {l2 : Nat} {l3 : Nat} {l4 : Int32} {l5 : Int32} {s0 : Nat} {σ : Sg} (hm : Mo σ0 σ) (h : DL_law_156 K115 K125 l0 l1 l2 l3 l4 l5 s0 σ = some (r, σ')) : X E p l e R s m args below meth c Q 13 (c0 + (gM σ - gM σ0)) (z0 + (gZ σ - gZ σ0)) σ 156 [some (.ref (ad E l0)), some (.ref (ad E l1)), some (.ref (ad E l2)), some (.ref (ad E l3)), some (.int l4), some (.int l5), none, none, none, none, none, none, none] [.ref (ad E s0)] := by
  obtain ⟨my1, my2⟩ := uL_law_156 hU115 hU125 h
  unfold DL_law_156 at h
  obtain ⟨hm1, hm2⟩ := hm
  obtain ⟨hR1, hR2, hR3, hR4⟩ := id hR
  refine x_astore (M := [some _, some _, some _, some _, some _, some _, some _, none, none, none, none, none, none]) (pc := 156) C dL_law_156 (by decide) rfl ?_
  refine x_aload_n (pc := 158) C dL_law_158 rfl rfl ?_
  refine x_iload (pc := 159) C dL_law_159 rfl ?_
  refine x_aload (pc := 161) C dL_law_161 rfl ?_
  obtain ⟨v1, σ2, k, h⟩ := bnd_s h
  obtain ⟨mσ2a, mσ2b⟩ := umL_isLike k
  refine x_callS1 (pc := 163) C (mL_isLike E l k) cL_262 zL_isLike rfl rfl (Nat.le_of_ble_eq_true rfl) ⟨(Nat.le_trans (Nat.le_of_ble_eq_true rfl) hR1), (Nat.le_trans (m := 40 * 10) (Nat.le_of_ble_eq_true rfl) hR2), by omega, by omega⟩ dL_law_163 ?_
  refine x_if_ne (pc := 166) (tgt := 171) C dL_law_166 (by decide) (fun q => ?_) (fun q => ?_)
  · rw [if_pos q] at h
    exact x_sub (x_wide (by omega) (by omega) (tL_law_169 C hr hR hend ⟨by omega, by omega⟩ h)) (xLe_n (xLe_n (xLe_n (xLe_n (xLe_n (xLe_n (xLe_n (xLe_n (xLe_n (xLe_n (xLe_n (xLe_n (xLe_n xLe_0)))))))))))))
  · rw [if_neg q] at h
    refine x_aload_n (pc := 171) C dL_law_171 rfl rfl ?_
    refine x_iload (pc := 172) C dL_law_172 rfl ?_
    refine x_aload_n (pc := 174) C dL_law_174 rfl rfl ?_
    refine x_iload (pc := 175) C dL_law_175 rfl ?_
    obtain ⟨v3, σ4, k, h⟩ := bnd_s h
    obtain ⟨mσ4a, mσ4b⟩ := umL_how k
    refine x_callS1 (pc := 177) C (mL_how E l k) cL_141 zL_how rfl rfl (Nat.le_of_ble_eq_true rfl) ⟨(Nat.le_trans (Nat.le_of_ble_eq_true rfl) hR1), (Nat.le_trans (m := 40 * 10) (Nat.le_of_ble_eq_true rfl) hR2), by omega, by omega⟩ dL_law_177 ?_
    refine x_aload_n (pc := 180) C dL_law_180 rfl rfl ?_
    refine x_iload (pc := 181) C dL_law_181 rfl ?_
    obtain ⟨k, h⟩ := chk_s h
    have k2 := k
    obtain ⟨k, h⟩ := chk_s h
    refine x_daald (pc := 183) C k2 k dL_law_183 ?_
    refine x_aload_n (pc := 184) C dL_law_184 rfl rfl ?_
    refine x_iload (pc := 185) C dL_law_185 rfl ?_
    obtain ⟨k, h⟩ := chk_s h
    have k2 := k
    obtain ⟨k, h⟩ := chk_s h
    refine x_daald (pc := 187) C k2 k dL_law_187 ?_
    refine x_iconst (v := -1) (pc := 188) C dL_law_188 (by decide) ?_
    refine x_iconst (v := 1) (pc := 189) C dL_law_189 (by decide) ?_
    obtain ⟨v5, σ6, k, h⟩ := bnd_s h
    obtain ⟨mσ6a, mσ6b⟩ := umL_found k
    obtain ⟨mz1, mz2⟩ := uL_law_193 hU115 hU125 h
    refine x_callS1 (pc := 190) C (mL_found E l k) cL_258 zL_found rfl rfl (Nat.le_of_ble_eq_true rfl) ⟨(Nat.le_trans (Nat.le_of_ble_eq_true rfl) hR1), (Nat.le_trans (m := 40 * 10) (Nat.le_of_ble_eq_true rfl) hR2), by omega, by omega⟩ dL_law_190 ?_
    exact x_sub (x_wide (by omega) (by omega) (tL_law_193 C hr hR hend hK115 hU115 hK125 hU125 ⟨by omega, by omega⟩ h)) (xLe_s (xLe_s (xLe_s (xLe_s (xLe_s (xLe_s (xLe_s (xLe_n (xLe_n (xLe_n (xLe_n (xLe_n (xLe_n xLe_0)))))))))))))
def DL_law_632 (K115 : Nat → Nat → Nat → Nat → Int32 → Sg → Option (Int32 × Sg)) (l0 : Nat) (l1 : Nat) (l2 : Nat) (l3 : Nat) (l4 : Int32) (σ : Sg) : Option (Int32 × Sg) :=
  K115 l0 l1 l2 l3 (l4 + (1 : Int32)) σ
theorem uL_law_632 {r : Int32} {σ' : Sg} {K115 : Nat → Nat → Nat → Nat → Int32 → Sg → Option (Int32 × Sg)} (hU115 : ∀ (l0 : Nat) (l1 : Nat) (l2 : Nat) (l3 : Nat) (l4 : Int32) (σ : Sg), K115 l0 l1 l2 l3 l4 σ = some (r, σ') → Mo σ σ') {l0 : Nat} {l1 : Nat} {l2 : Nat} {l3 : Nat} {l4 : Int32} {σ : Sg} (h : DL_law_632 K115 l0 l1 l2 l3 l4 σ = some (r, σ')) : Mo σ σ' := by
  unfold DL_law_632 at h
  obtain ⟨mz1, mz2⟩ := hU115 _ _ _ _ _ _ h
  exact ⟨by omega, by omega⟩
theorem tL_law_632 {r : Int32} {σ' : Sg} (C : Cx E p s m args meth c "ProratesLaw" cL_law 13) (hr : meth.sig.returnType = (some .boolean)) (hR : RR R 10 (c0 + (gM σ' - gM σ0)) (z0 + (gZ σ' - gZ σ0))) (hend : ∀ (pc : Nat) (L : List (Option Value)), decode cL_law pc = .ok (.ireturn, 1) → X E p l e R s m args below meth c Q 13 (c0 + (gM σ' - gM σ0)) (z0 + (gZ σ' - gZ σ0)) σ' pc L [.int r]) {K115 : Nat → Nat → Nat → Nat → Int32 → Sg → Option (Int32 × Sg)} (hK115 : ∀ (l0 : Nat) (l1 : Nat) (l2 : Nat) (l3 : Nat) (l4 : Int32) (σ : Sg), Mo σ0 σ → K115 l0 l1 l2 l3 l4 σ = some (r, σ') → X E p l e R s m args below meth c Q 13 (c0 + (gM σ - gM σ0)) (z0 + (gZ σ - gZ σ0)) σ 115 [some (.ref (ad E l0)), some (.ref (ad E l1)), some (.ref (ad E l2)), some (.ref (ad E l3)), some (.int l4), none, none, none, none, none, none, none, none] []) (hU115 : ∀ (l0 : Nat) (l1 : Nat) (l2 : Nat) (l3 : Nat) (l4 : Int32) (σ : Sg), K115 l0 l1 l2 l3 l4 σ = some (r, σ') → Mo σ σ') {l0 : Nat} {l1 : Nat} {l2 : Nat} {l3 : Nat} {l4 : Int32} {σ : Sg} (hm : Mo σ0 σ) (h : DL_law_632 K115 l0 l1 l2 l3 l4 σ = some (r, σ')) : X E p l e R s m args below meth c Q 13 (c0 + (gM σ - gM σ0)) (z0 + (gZ σ - gZ σ0)) σ 632 [some (.ref (ad E l0)), some (.ref (ad E l1)), some (.ref (ad E l2)), some (.ref (ad E l3)), some (.int l4), none, none, none, none, none, none, none, none] [] := by
  obtain ⟨my1, my2⟩ := uL_law_632 hU115 h
  unfold DL_law_632 at h
  obtain ⟨hm1, hm2⟩ := hm
  obtain ⟨hR1, hR2, hR3, hR4⟩ := id hR
  refine x_iinc (v := 1) (M := [some _, some _, some _, some _, some _, none, none, none, none, none, none, none, none]) (pc := 632) C dL_law_632 rfl (by decide) (by decide) rfl ?_
  refine x_goto (tgt := 115) (pc := 635) C dL_law_635 (by decide) ?_
  exact x_sub (x_wide (by omega) (by omega) (hK115 _ _ _ _ _ _ ⟨by omega, by omega⟩ h)) (xLe_s (xLe_s (xLe_s (xLe_s (xLe_s (xLe_n (xLe_n (xLe_n (xLe_n (xLe_n (xLe_n (xLe_n (xLe_n xLe_0)))))))))))))
def DL_law_585 (K115 : Nat → Nat → Nat → Nat → Int32 → Sg → Option (Int32 × Sg)) (l0 : Nat) (l1 : Nat) (l2 : Nat) (l3 : Nat) (l4 : Int32) (σ : Sg) : Option (Int32 × Sg) :=
  DL_law_632 K115 l0 l1 l2 l3 l4 σ
theorem uL_law_585 {r : Int32} {σ' : Sg} {K115 : Nat → Nat → Nat → Nat → Int32 → Sg → Option (Int32 × Sg)} (hU115 : ∀ (l0 : Nat) (l1 : Nat) (l2 : Nat) (l3 : Nat) (l4 : Int32) (σ : Sg), K115 l0 l1 l2 l3 l4 σ = some (r, σ') → Mo σ σ') {l0 : Nat} {l1 : Nat} {l2 : Nat} {l3 : Nat} {l4 : Int32} {σ : Sg} (h : DL_law_585 K115 l0 l1 l2 l3 l4 σ = some (r, σ')) : Mo σ σ' := by
  unfold DL_law_585 at h
  obtain ⟨mz1, mz2⟩ := uL_law_632 hU115 h
  exact ⟨by omega, by omega⟩
theorem tL_law_585 {r : Int32} {σ' : Sg} (C : Cx E p s m args meth c "ProratesLaw" cL_law 13) (hr : meth.sig.returnType = (some .boolean)) (hR : RR R 10 (c0 + (gM σ' - gM σ0)) (z0 + (gZ σ' - gZ σ0))) (hend : ∀ (pc : Nat) (L : List (Option Value)), decode cL_law pc = .ok (.ireturn, 1) → X E p l e R s m args below meth c Q 13 (c0 + (gM σ' - gM σ0)) (z0 + (gZ σ' - gZ σ0)) σ' pc L [.int r]) {K115 : Nat → Nat → Nat → Nat → Int32 → Sg → Option (Int32 × Sg)} (hK115 : ∀ (l0 : Nat) (l1 : Nat) (l2 : Nat) (l3 : Nat) (l4 : Int32) (σ : Sg), Mo σ0 σ → K115 l0 l1 l2 l3 l4 σ = some (r, σ') → X E p l e R s m args below meth c Q 13 (c0 + (gM σ - gM σ0)) (z0 + (gZ σ - gZ σ0)) σ 115 [some (.ref (ad E l0)), some (.ref (ad E l1)), some (.ref (ad E l2)), some (.ref (ad E l3)), some (.int l4), none, none, none, none, none, none, none, none] []) (hU115 : ∀ (l0 : Nat) (l1 : Nat) (l2 : Nat) (l3 : Nat) (l4 : Int32) (σ : Sg), K115 l0 l1 l2 l3 l4 σ = some (r, σ') → Mo σ σ') {l0 : Nat} {l1 : Nat} {l2 : Nat} {l3 : Nat} {l4 : Int32} {σ : Sg} (hm : Mo σ0 σ) (h : DL_law_585 K115 l0 l1 l2 l3 l4 σ = some (r, σ')) : X E p l e R s m args below meth c Q 13 (c0 + (gM σ - gM σ0)) (z0 + (gZ σ - gZ σ0)) σ 585 [some (.ref (ad E l0)), some (.ref (ad E l1)), some (.ref (ad E l2)), some (.ref (ad E l3)), some (.int l4), none, none, none, none, none, none, none, none] [] := by
  obtain ⟨my1, my2⟩ := uL_law_585 hU115 h
  unfold DL_law_585 at h
  obtain ⟨hm1, hm2⟩ := hm
  obtain ⟨hR1, hR2, hR3, hR4⟩ := id hR
  refine x_goto (tgt := 632) (pc := 585) C dL_law_585 (by decide) ?_
  exact x_sub (x_wide (by omega) (by omega) (tL_law_632 C hr hR hend hK115 hU115 ⟨by omega, by omega⟩ h)) (xLe_s (xLe_s (xLe_s (xLe_s (xLe_s (xLe_n (xLe_n (xLe_n (xLe_n (xLe_n (xLe_n (xLe_n (xLe_n xLe_0)))))))))))))
def DL_law_506 (K115 : Nat → Nat → Nat → Nat → Int32 → Sg → Option (Int32 × Sg)) (l0 : Nat) (l1 : Nat) (l2 : Nat) (l3 : Nat) (l4 : Int32) (σ : Sg) : Option (Int32 × Sg) :=
  bnd (DL_cell l0 ((19 : Int32) + l4) σ) fun v1 σ2 =>
  chk (ckN (4 : Int32)) <|
  bnd (DL_tickets l0 σ2) fun v3 σ4 =>
  bnd (DL_in (v1 / (4 : Int32)) v3 σ4) fun v5 σ6 =>
  chk (ckN (16 : Int32)) <|
  bnd (DL_coupons l0 v5 σ6) fun v7 σ8 =>
  bnd (DL_in (v1 / (16 : Int32)) v7 σ8) fun v9 σ10 =>
  bnd (DL_in v1 (3 : Int32) σ10) fun v11 σ12 =>
  if v11 ≤ 0 then
    chk (ckN (128 : Int32)) <|
    bnd (DL_carriers l0 σ12) fun v13 σ14 =>
    bnd (DL_in (v1 / (128 : Int32)) v13 σ14) fun v15 σ16 =>
    chk (ckO σ16 5 l1) <|
    bnd (DX7_endorse l1 v5 v9 v15 σ16) fun v17 σ18 =>
    chk (ckT2 σ16 σ18) <|
    if v17 < 0 then
      DL_law_632 K115 l0 l1 l2 l3 l4 σ18
    else
      chk (ckB σ18 5 l2 v5) <|
      chk (ckV (gR σ18 l2 v5.toNatClampNeg)) <|
      chk (ckN (128 : Int32)) <|
      bnd (DL_carriers l0 σ18) fun v19 σ20 =>
      bnd (DL_in (v1 / (128 : Int32)) v19 σ20) fun v21 σ22 =>
      chk (ckB σ22 2 (gR σ18 l2 v5.toNatClampNeg) v9) <|
      wlet (wI σ22 (gR σ18 l2 v5.toNatClampNeg) v9.toNatClampNeg v21) fun σ23 =>
      DL_law_632 K115 l0 l1 l2 l3 l4 σ23
  else
    chk (ckO σ12 5 l1) <|
    bnd (DX7_share l1 v5 v9 σ12) fun v24 σ25 =>
    chk (ckT2 σ12 σ25) <|
    chk (ckO σ25 5 l1) <|
    bnd (DX7_fly l1 v5 v9 σ25) fun v26 σ27 =>
    chk (ckT2 σ25 σ27) <|
    if v26 < 0 then
      DL_law_585 K115 l0 l1 l2 l3 l4 σ27
    else
      chk (ckB σ27 5 l3 v5) <|
      chk (ckV (gR σ27 l3 v5.toNatClampNeg)) <|
      chk (ckB σ27 2 (gR σ27 l3 v5.toNatClampNeg) v9) <|
      wlet (wI σ27 (gR σ27 l3 v5.toNatClampNeg) v9.toNatClampNeg v24) fun σ28 =>
      DL_law_585 K115 l0 l1 l2 l3 l4 σ28
theorem uL_law_506 {r : Int32} {σ' : Sg} {K115 : Nat → Nat → Nat → Nat → Int32 → Sg → Option (Int32 × Sg)} (hU115 : ∀ (l0 : Nat) (l1 : Nat) (l2 : Nat) (l3 : Nat) (l4 : Int32) (σ : Sg), K115 l0 l1 l2 l3 l4 σ = some (r, σ') → Mo σ σ') {l0 : Nat} {l1 : Nat} {l2 : Nat} {l3 : Nat} {l4 : Int32} {σ : Sg} (h : DL_law_506 K115 l0 l1 l2 l3 l4 σ = some (r, σ')) : Mo σ σ' := by
  unfold DL_law_506 at h
  obtain ⟨v1, σ2, k, h⟩ := bnd_s h
  obtain ⟨mσ2a, mσ2b⟩ := umL_cell k
  obtain ⟨k, h⟩ := chk_s h
  obtain ⟨v3, σ4, k, h⟩ := bnd_s h
  obtain ⟨mσ4a, mσ4b⟩ := umL_tickets k
  obtain ⟨v5, σ6, k, h⟩ := bnd_s h
  obtain ⟨mσ6a, mσ6b⟩ := umL_in k
  obtain ⟨k, h⟩ := chk_s h
  obtain ⟨v7, σ8, k, h⟩ := bnd_s h
  obtain ⟨mσ8a, mσ8b⟩ := umL_coupons k
  obtain ⟨v9, σ10, k, h⟩ := bnd_s h
  obtain ⟨mσ10a, mσ10b⟩ := umL_in k
  obtain ⟨v11, σ12, k, h⟩ := bnd_s h
  obtain ⟨mσ12a, mσ12b⟩ := umL_in k
  by_cases q : v11 ≤ 0
  · rw [if_pos q] at h
    obtain ⟨k, h⟩ := chk_s h
    obtain ⟨v13, σ14, k, h⟩ := bnd_s h
    obtain ⟨mσ14a, mσ14b⟩ := umL_carriers k
    obtain ⟨v15, σ16, k, h⟩ := bnd_s h
    obtain ⟨mσ16a, mσ16b⟩ := umL_in k
    obtain ⟨k, h⟩ := chk_s h
    obtain ⟨v17, σ18, k, h⟩ := bnd_s h
    obtain ⟨kt, h⟩ := chk_s h
    obtain ⟨mσ18a, mσ18b⟩ := ckT2_s kt
    by_cases q : v17 < 0
    · rw [if_pos q] at h
      obtain ⟨mz1, mz2⟩ := uL_law_632 hU115 h
      exact ⟨by omega, by omega⟩
    · rw [if_neg q] at h
      obtain ⟨k, h⟩ := chk_s h
      obtain ⟨k, h⟩ := chk_s h
      obtain ⟨k, h⟩ := chk_s h
      obtain ⟨v19, σ20, k, h⟩ := bnd_s h
      obtain ⟨mσ20a, mσ20b⟩ := umL_carriers k
      obtain ⟨v21, σ22, k, h⟩ := bnd_s h
      obtain ⟨mσ22a, mσ22b⟩ := umL_in k
      obtain ⟨k, h⟩ := chk_s h
      obtain ⟨σ23, e1, h⟩ := wlet_s h
      have mσ23 : gM σ23 = gM σ22 ∧ gZ σ23 = gZ σ22 := by rw [e1]; exact ⟨rfl, rfl⟩
      obtain ⟨mσ23a, mσ23b⟩ := mσ23
      obtain ⟨mz1, mz2⟩ := uL_law_632 hU115 h
      exact ⟨by omega, by omega⟩
  · rw [if_neg q] at h
    obtain ⟨k, h⟩ := chk_s h
    obtain ⟨v24, σ25, k, h⟩ := bnd_s h
    obtain ⟨kt, h⟩ := chk_s h
    obtain ⟨mσ25a, mσ25b⟩ := ckT2_s kt
    obtain ⟨k, h⟩ := chk_s h
    obtain ⟨v26, σ27, k, h⟩ := bnd_s h
    obtain ⟨kt, h⟩ := chk_s h
    obtain ⟨mσ27a, mσ27b⟩ := ckT2_s kt
    by_cases q : v26 < 0
    · rw [if_pos q] at h
      obtain ⟨mz1, mz2⟩ := uL_law_585 hU115 h
      exact ⟨by omega, by omega⟩
    · rw [if_neg q] at h
      obtain ⟨k, h⟩ := chk_s h
      obtain ⟨k, h⟩ := chk_s h
      obtain ⟨k, h⟩ := chk_s h
      obtain ⟨σ28, e1, h⟩ := wlet_s h
      have mσ28 : gM σ28 = gM σ27 ∧ gZ σ28 = gZ σ27 := by rw [e1]; exact ⟨rfl, rfl⟩
      obtain ⟨mσ28a, mσ28b⟩ := mσ28
      obtain ⟨mz1, mz2⟩ := uL_law_585 hU115 h
      exact ⟨by omega, by omega⟩
theorem tL_law_506 {r : Int32} {σ' : Sg} (C : Cx E p s m args meth c "ProratesLaw" cL_law 13) (hr : meth.sig.returnType = (some .boolean)) (hR : RR R 10 (c0 + (gM σ' - gM σ0)) (z0 + (gZ σ' - gZ σ0))) (hend : ∀ (pc : Nat) (L : List (Option Value)), decode cL_law pc = .ok (.ireturn, 1) → X E p l e R s m args below meth c Q 13 (c0 + (gM σ' - gM σ0)) (z0 + (gZ σ' - gZ σ0)) σ' pc L [.int r]) {K115 : Nat → Nat → Nat → Nat → Int32 → Sg → Option (Int32 × Sg)} (hK115 : ∀ (l0 : Nat) (l1 : Nat) (l2 : Nat) (l3 : Nat) (l4 : Int32) (σ : Sg), Mo σ0 σ → K115 l0 l1 l2 l3 l4 σ = some (r, σ') → X E p l e R s m args below meth c Q 13 (c0 + (gM σ - gM σ0)) (z0 + (gZ σ - gZ σ0)) σ 115 [some (.ref (ad E l0)), some (.ref (ad E l1)), some (.ref (ad E l2)), some (.ref (ad E l3)), some (.int l4), none, none, none, none, none, none, none, none] []) (hU115 : ∀ (l0 : Nat) (l1 : Nat) (l2 : Nat) (l3 : Nat) (l4 : Int32) (σ : Sg), K115 l0 l1 l2 l3 l4 σ = some (r, σ') → Mo σ σ') {l0 : Nat} {l1 : Nat} {l2 : Nat} {l3 : Nat} {l4 : Int32} {σ : Sg} (hm : Mo σ0 σ) (h : DL_law_506 K115 l0 l1 l2 l3 l4 σ = some (r, σ')) : X E p l e R s m args below meth c Q 13 (c0 + (gM σ - gM σ0)) (z0 + (gZ σ - gZ σ0)) σ 506 [some (.ref (ad E l0)), some (.ref (ad E l1)), some (.ref (ad E l2)), some (.ref (ad E l3)), some (.int l4), none, none, none, none, none, none, none, none] [] := by
  obtain ⟨my1, my2⟩ := uL_law_506 hU115 h
  unfold DL_law_506 at h
  obtain ⟨hm1, hm2⟩ := hm
  obtain ⟨hR1, hR2, hR3, hR4⟩ := id hR
  refine x_aload_n (pc := 506) C dL_law_506 rfl rfl ?_
  refine x_bipush (v := 19) (pc := 507) C dL_law_507 (by decide) ?_
  refine x_iload (pc := 509) C dL_law_509 rfl ?_
  refine x_iadd (pc := 511) C dL_law_511 ?_
  obtain ⟨v1, σ2, k, h⟩ := bnd_s h
  obtain ⟨mσ2a, mσ2b⟩ := umL_cell k
  refine x_callS1 (pc := 512) C (mL_cell E l k) cL_37 zL_cell rfl rfl (Nat.le_of_ble_eq_true rfl) ⟨(Nat.le_trans (Nat.le_of_ble_eq_true rfl) hR1), (Nat.le_trans (m := 40 * 10) (Nat.le_of_ble_eq_true rfl) hR2), by omega, by omega⟩ dL_law_512 ?_
  refine x_istore (M := [some _, some _, some _, some _, some _, some _, none, none, none, none, none, none, none]) (pc := 515) C dL_law_515 (by decide) rfl ?_
  refine x_iload (pc := 517) C dL_law_517 rfl ?_
  refine x_iconst (v := 4) (pc := 519) C dL_law_519 (by decide) ?_
  obtain ⟨k, h⟩ := chk_s h
  refine x_idiv (pc := 520) C dL_law_520 (ckN_s k) ?_
  refine x_aload_n (pc := 521) C dL_law_521 rfl rfl ?_
  obtain ⟨v3, σ4, k, h⟩ := bnd_s h
  obtain ⟨mσ4a, mσ4b⟩ := umL_tickets k
  refine x_callS1 (pc := 522) C (mL_tickets E l k) cL_133 zL_tickets rfl rfl (Nat.le_of_ble_eq_true rfl) ⟨(Nat.le_trans (Nat.le_of_ble_eq_true rfl) hR1), (Nat.le_trans (m := 40 * 10) (Nat.le_of_ble_eq_true rfl) hR2), by omega, by omega⟩ dL_law_522 ?_
  obtain ⟨v5, σ6, k, h⟩ := bnd_s h
  obtain ⟨mσ6a, mσ6b⟩ := umL_in k
  refine x_callS1 (pc := 525) C (mL_in E l k) cL_43 zL_in rfl rfl (Nat.le_of_ble_eq_true rfl) ⟨(Nat.le_trans (Nat.le_of_ble_eq_true rfl) hR1), (Nat.le_trans (m := 40 * 10) (Nat.le_of_ble_eq_true rfl) hR2), by omega, by omega⟩ dL_law_525 ?_
  refine x_istore (M := [some _, some _, some _, some _, some _, some _, some _, none, none, none, none, none, none]) (pc := 528) C dL_law_528 (by decide) rfl ?_
  refine x_iload (pc := 530) C dL_law_530 rfl ?_
  refine x_bipush (v := 16) (pc := 532) C dL_law_532 (by decide) ?_
  obtain ⟨k, h⟩ := chk_s h
  refine x_idiv (pc := 534) C dL_law_534 (ckN_s k) ?_
  refine x_aload_n (pc := 535) C dL_law_535 rfl rfl ?_
  refine x_iload (pc := 536) C dL_law_536 rfl ?_
  obtain ⟨v7, σ8, k, h⟩ := bnd_s h
  obtain ⟨mσ8a, mσ8b⟩ := umL_coupons k
  refine x_callS1 (pc := 538) C (mL_coupons E l k) cL_151 zL_coupons rfl rfl (Nat.le_of_ble_eq_true rfl) ⟨(Nat.le_trans (Nat.le_of_ble_eq_true rfl) hR1), (Nat.le_trans (m := 40 * 10) (Nat.le_of_ble_eq_true rfl) hR2), by omega, by omega⟩ dL_law_538 ?_
  obtain ⟨v9, σ10, k, h⟩ := bnd_s h
  obtain ⟨mσ10a, mσ10b⟩ := umL_in k
  refine x_callS1 (pc := 541) C (mL_in E l k) cL_43 zL_in rfl rfl (Nat.le_of_ble_eq_true rfl) ⟨(Nat.le_trans (Nat.le_of_ble_eq_true rfl) hR1), (Nat.le_trans (m := 40 * 10) (Nat.le_of_ble_eq_true rfl) hR2), by omega, by omega⟩ dL_law_541 ?_
  refine x_istore (M := [some _, some _, some _, some _, some _, some _, some _, some _, none, none, none, none, none]) (pc := 544) C dL_law_544 (by decide) rfl ?_
  refine x_iload (pc := 546) C dL_law_546 rfl ?_
  refine x_iconst (v := 3) (pc := 548) C dL_law_548 (by decide) ?_
  obtain ⟨v11, σ12, k, h⟩ := bnd_s h
  obtain ⟨mσ12a, mσ12b⟩ := umL_in k
  refine x_callS1 (pc := 549) C (mL_in E l k) cL_43 zL_in rfl rfl (Nat.le_of_ble_eq_true rfl) ⟨(Nat.le_trans (Nat.le_of_ble_eq_true rfl) hR1), (Nat.le_trans (m := 40 * 10) (Nat.le_of_ble_eq_true rfl) hR2), by omega, by omega⟩ dL_law_549 ?_
  refine x_if_le (pc := 552) (tgt := 588) C dL_law_552 (by decide) (fun q => ?_) (fun q => ?_)
  · rw [if_pos q] at h
    refine x_aload_n (pc := 588) C dL_law_588 rfl rfl ?_
    refine x_iload (pc := 589) C dL_law_589 rfl ?_
    refine x_iload (pc := 591) C dL_law_591 rfl ?_
    refine x_iload (pc := 593) C dL_law_593 rfl ?_
    refine x_sipush (v := 128) (pc := 595) C dL_law_595 (by decide) ?_
    obtain ⟨k, h⟩ := chk_s h
    refine x_idiv (pc := 598) C dL_law_598 (ckN_s k) ?_
    refine x_aload_n (pc := 599) C dL_law_599 rfl rfl ?_
    obtain ⟨v13, σ14, k, h⟩ := bnd_s h
    obtain ⟨mσ14a, mσ14b⟩ := umL_carriers k
    refine x_callS1 (pc := 600) C (mL_carriers E l k) cL_51 zL_carriers rfl rfl (Nat.le_of_ble_eq_true rfl) ⟨(Nat.le_trans (Nat.le_of_ble_eq_true rfl) hR1), (Nat.le_trans (m := 40 * 10) (Nat.le_of_ble_eq_true rfl) hR2), by omega, by omega⟩ dL_law_600 ?_
    obtain ⟨v15, σ16, k, h⟩ := bnd_s h
    obtain ⟨mσ16a, mσ16b⟩ := umL_in k
    refine x_callS1 (pc := 603) C (mL_in E l k) cL_43 zL_in rfl rfl (Nat.le_of_ble_eq_true rfl) ⟨(Nat.le_trans (Nat.le_of_ble_eq_true rfl) hR1), (Nat.le_trans (m := 40 * 10) (Nat.le_of_ble_eq_true rfl) hR2), by omega, by omega⟩ dL_law_603 ?_
    obtain ⟨k, h⟩ := chk_s h
    have k2 := k
    obtain ⟨v17, σ18, k, h⟩ := bnd_s h
    obtain ⟨kt, h⟩ := chk_s h
    obtain ⟨mσ18a, mσ18b⟩ := ckT2_s kt
    refine x_callV1 (pc := 606) C (mX7_endorse E l k) cl5 k2 cL_281 nX7_endorse sX7_endorse rfl rfl (Nat.le_of_ble_eq_true rfl) ⟨(Nat.le_trans (Nat.le_of_ble_eq_true rfl) hR1), (Nat.le_trans (m := 40 * 10) (Nat.le_of_ble_eq_true rfl) hR2), by omega, by omega⟩ dL_law_606 ?_
    refine x_if_lt (pc := 609) (tgt := 632) C dL_law_609 (by decide) (fun q => ?_) (fun q => ?_)
    · rw [if_pos q] at h
      exact x_sub (x_wide (by omega) (by omega) (tL_law_632 C hr hR hend hK115 hU115 ⟨by omega, by omega⟩ h)) (xLe_s (xLe_s (xLe_s (xLe_s (xLe_s (xLe_n (xLe_n (xLe_n (xLe_n (xLe_n (xLe_n (xLe_n (xLe_n xLe_0)))))))))))))
    · rw [if_neg q] at h
      refine x_aload_n (pc := 612) C dL_law_612 rfl rfl ?_
      refine x_iload (pc := 613) C dL_law_613 rfl ?_
      obtain ⟨k, h⟩ := chk_s h
      have k2 := k
      obtain ⟨k, h⟩ := chk_s h
      refine x_daald (pc := 615) C k2 k dL_law_615 ?_
      refine x_iload (pc := 616) C dL_law_616 rfl ?_
      refine x_iload (pc := 618) C dL_law_618 rfl ?_
      refine x_sipush (v := 128) (pc := 620) C dL_law_620 (by decide) ?_
      obtain ⟨k, h⟩ := chk_s h
      refine x_idiv (pc := 623) C dL_law_623 (ckN_s k) ?_
      refine x_aload_n (pc := 624) C dL_law_624 rfl rfl ?_
      obtain ⟨v19, σ20, k, h⟩ := bnd_s h
      obtain ⟨mσ20a, mσ20b⟩ := umL_carriers k
      refine x_callS1 (pc := 625) C (mL_carriers E l k) cL_51 zL_carriers rfl rfl (Nat.le_of_ble_eq_true rfl) ⟨(Nat.le_trans (Nat.le_of_ble_eq_true rfl) hR1), (Nat.le_trans (m := 40 * 10) (Nat.le_of_ble_eq_true rfl) hR2), by omega, by omega⟩ dL_law_625 ?_
      obtain ⟨v21, σ22, k, h⟩ := bnd_s h
      obtain ⟨mσ22a, mσ22b⟩ := umL_in k
      refine x_callS1 (pc := 628) C (mL_in E l k) cL_43 zL_in rfl rfl (Nat.le_of_ble_eq_true rfl) ⟨(Nat.le_trans (Nat.le_of_ble_eq_true rfl) hR1), (Nat.le_trans (m := 40 * 10) (Nat.le_of_ble_eq_true rfl) hR2), by omega, by omega⟩ dL_law_628 ?_
      obtain ⟨k, h⟩ := chk_s h
      obtain ⟨σ23, e1, h⟩ := wlet_s h
      have mσ23 : gM σ23 = gM σ22 ∧ gZ σ23 = gZ σ22 := by rw [e1]; exact ⟨rfl, rfl⟩
      obtain ⟨mσ23a, mσ23b⟩ := mσ23
      refine x_diast (pc := 631) C k dL_law_631 (x_eq e1 ?_)
      exact x_sub (x_wide (by omega) (by omega) (tL_law_632 C hr hR hend hK115 hU115 ⟨by omega, by omega⟩ h)) (xLe_s (xLe_s (xLe_s (xLe_s (xLe_s (xLe_n (xLe_n (xLe_n (xLe_n (xLe_n (xLe_n (xLe_n (xLe_n xLe_0)))))))))))))
  · rw [if_neg q] at h
    refine x_aload_n (pc := 555) C dL_law_555 rfl rfl ?_
    refine x_iload (pc := 556) C dL_law_556 rfl ?_
    refine x_iload (pc := 558) C dL_law_558 rfl ?_
    obtain ⟨k, h⟩ := chk_s h
    have k2 := k
    obtain ⟨v24, σ25, k, h⟩ := bnd_s h
    obtain ⟨kt, h⟩ := chk_s h
    obtain ⟨mσ25a, mσ25b⟩ := ckT2_s kt
    refine x_callV1 (pc := 560) C (mX7_share E l k) cl5 k2 cL_237 nX7_share sX7_share rfl rfl (Nat.le_of_ble_eq_true rfl) ⟨(Nat.le_trans (Nat.le_of_ble_eq_true rfl) hR1), (Nat.le_trans (m := 40 * 10) (Nat.le_of_ble_eq_true rfl) hR2), by omega, by omega⟩ dL_law_560 ?_
    refine x_istore (M := [some _, some _, some _, some _, some _, some _, some _, some _, some _, none, none, none, none]) (pc := 563) C dL_law_563 (by decide) rfl ?_
    refine x_aload_n (pc := 565) C dL_law_565 rfl rfl ?_
    refine x_iload (pc := 566) C dL_law_566 rfl ?_
    refine x_iload (pc := 568) C dL_law_568 rfl ?_
    obtain ⟨k, h⟩ := chk_s h
    have k2 := k
    obtain ⟨v26, σ27, k, h⟩ := bnd_s h
    obtain ⟨kt, h⟩ := chk_s h
    obtain ⟨mσ27a, mσ27b⟩ := ckT2_s kt
    refine x_callV1 (pc := 570) C (mX7_fly E l k) cl5 k2 cL_278 nX7_fly sX7_fly rfl rfl (Nat.le_of_ble_eq_true rfl) ⟨(Nat.le_trans (Nat.le_of_ble_eq_true rfl) hR1), (Nat.le_trans (m := 40 * 10) (Nat.le_of_ble_eq_true rfl) hR2), by omega, by omega⟩ dL_law_570 ?_
    refine x_if_lt (pc := 573) (tgt := 585) C dL_law_573 (by decide) (fun q => ?_) (fun q => ?_)
    · rw [if_pos q] at h
      exact x_sub (x_wide (by omega) (by omega) (tL_law_585 C hr hR hend hK115 hU115 ⟨by omega, by omega⟩ h)) (xLe_s (xLe_s (xLe_s (xLe_s (xLe_s (xLe_n (xLe_n (xLe_n (xLe_n (xLe_n (xLe_n (xLe_n (xLe_n xLe_0)))))))))))))
    · rw [if_neg q] at h
      refine x_aload_n (pc := 576) C dL_law_576 rfl rfl ?_
      refine x_iload (pc := 577) C dL_law_577 rfl ?_
      obtain ⟨k, h⟩ := chk_s h
      have k2 := k
      obtain ⟨k, h⟩ := chk_s h
      refine x_daald (pc := 579) C k2 k dL_law_579 ?_
      refine x_iload (pc := 580) C dL_law_580 rfl ?_
      refine x_iload (pc := 582) C dL_law_582 rfl ?_
      obtain ⟨k, h⟩ := chk_s h
      obtain ⟨σ28, e1, h⟩ := wlet_s h
      have mσ28 : gM σ28 = gM σ27 ∧ gZ σ28 = gZ σ27 := by rw [e1]; exact ⟨rfl, rfl⟩
      obtain ⟨mσ28a, mσ28b⟩ := mσ28
      refine x_diast (pc := 584) C k dL_law_584 (x_eq e1 ?_)
      exact x_sub (x_wide (by omega) (by omega) (tL_law_585 C hr hR hend hK115 hU115 ⟨by omega, by omega⟩ h)) (xLe_s (xLe_s (xLe_s (xLe_s (xLe_s (xLe_n (xLe_n (xLe_n (xLe_n (xLe_n (xLe_n (xLe_n (xLe_n xLe_0)))))))))))))
def DL_law_125 (K115 : Nat → Nat → Nat → Nat → Int32 → Sg → Option (Int32 × Sg)) : Nat → Nat → Nat → Nat → Nat → Int32 → Int32 → Sg → Option (Int32 × Sg)
  | 0, _, _, _, _, _, _, _ => none
  | n + 1, l0, l1, l2, l3, l4, l5, σ =>
    bnd (DL_tickets l0 σ) fun v1 σ2 =>
    if v1 ≤ l5 then
      DL_law_506 K115 l0 l1 l2 l3 l4 σ2
    else
      bnd (DL_how l0 l5 σ2) fun v3 σ4 =>
      chk (ckB σ4 5 l2 l5) <|
      chk (ckV (gR σ4 l2 l5.toNatClampNeg)) <|
      chk (ckB σ4 5 l3 l5) <|
      chk (ckV (gR σ4 l3 l5.toNatClampNeg)) <|
      bnd (DL_found l0 l5 v3 (gR σ4 l2 l5.toNatClampNeg) (gR σ4 l3 l5.toNatClampNeg) (-1 : Int32) (0 : Int32) σ4) fun v5 σ6 =>
      DL_law_156 K115 (DL_law_125 K115 n) l0 l1 l2 l3 l4 l5 v5 σ6
theorem uL_law_125 {r : Int32} {σ' : Sg} {K115 : Nat → Nat → Nat → Nat → Int32 → Sg → Option (Int32 × Sg)} (hU115 : ∀ (l0 : Nat) (l1 : Nat) (l2 : Nat) (l3 : Nat) (l4 : Int32) (σ : Sg), K115 l0 l1 l2 l3 l4 σ = some (r, σ') → Mo σ σ') : ∀ (n : Nat) (l0 : Nat) (l1 : Nat) (l2 : Nat) (l3 : Nat) (l4 : Int32) (l5 : Int32) (σ : Sg) (h : DL_law_125 K115 n l0 l1 l2 l3 l4 l5 σ = some (r, σ')), Mo σ σ' := by
  intro n
  induction n with
  | zero => intro l0 l1 l2 l3 l4 l5 σ h; cases h
  | succ n ih =>
    intro l0 l1 l2 l3 l4 l5 σ h
    unfold DL_law_125 at h
    obtain ⟨v1, σ2, k, h⟩ := bnd_s h
    obtain ⟨mσ2a, mσ2b⟩ := umL_tickets k
    by_cases q : v1 ≤ l5
    · rw [if_pos q] at h
      obtain ⟨mz1, mz2⟩ := uL_law_506 hU115 h
      exact ⟨by omega, by omega⟩
    · rw [if_neg q] at h
      obtain ⟨v3, σ4, k, h⟩ := bnd_s h
      obtain ⟨mσ4a, mσ4b⟩ := umL_how k
      obtain ⟨k, h⟩ := chk_s h
      obtain ⟨k, h⟩ := chk_s h
      obtain ⟨k, h⟩ := chk_s h
      obtain ⟨k, h⟩ := chk_s h
      obtain ⟨v5, σ6, k, h⟩ := bnd_s h
      obtain ⟨mσ6a, mσ6b⟩ := umL_found k
      obtain ⟨mz1, mz2⟩ := uL_law_156 hU115 (fun a0 a1 a2 a3 a4 a5 a6 h => ih a0 a1 a2 a3 a4 a5 a6 h) h
      exact ⟨by omega, by omega⟩
theorem tL_law_125 {r : Int32} {σ' : Sg} (C : Cx E p s m args meth c "ProratesLaw" cL_law 13) (hr : meth.sig.returnType = (some .boolean)) (hR : RR R 10 (c0 + (gM σ' - gM σ0)) (z0 + (gZ σ' - gZ σ0))) (hend : ∀ (pc : Nat) (L : List (Option Value)), decode cL_law pc = .ok (.ireturn, 1) → X E p l e R s m args below meth c Q 13 (c0 + (gM σ' - gM σ0)) (z0 + (gZ σ' - gZ σ0)) σ' pc L [.int r]) {K115 : Nat → Nat → Nat → Nat → Int32 → Sg → Option (Int32 × Sg)} (hK115 : ∀ (l0 : Nat) (l1 : Nat) (l2 : Nat) (l3 : Nat) (l4 : Int32) (σ : Sg), Mo σ0 σ → K115 l0 l1 l2 l3 l4 σ = some (r, σ') → X E p l e R s m args below meth c Q 13 (c0 + (gM σ - gM σ0)) (z0 + (gZ σ - gZ σ0)) σ 115 [some (.ref (ad E l0)), some (.ref (ad E l1)), some (.ref (ad E l2)), some (.ref (ad E l3)), some (.int l4), none, none, none, none, none, none, none, none] []) (hU115 : ∀ (l0 : Nat) (l1 : Nat) (l2 : Nat) (l3 : Nat) (l4 : Int32) (σ : Sg), K115 l0 l1 l2 l3 l4 σ = some (r, σ') → Mo σ σ') : ∀ (n : Nat) (l0 : Nat) (l1 : Nat) (l2 : Nat) (l3 : Nat) (l4 : Int32) (l5 : Int32) (σ : Sg) (hm : Mo σ0 σ) (h : DL_law_125 K115 n l0 l1 l2 l3 l4 l5 σ = some (r, σ')), X E p l e R s m args below meth c Q 13 (c0 + (gM σ - gM σ0)) (z0 + (gZ σ - gZ σ0)) σ 125 [some (.ref (ad E l0)), some (.ref (ad E l1)), some (.ref (ad E l2)), some (.ref (ad E l3)), some (.int l4), some (.int l5), none, none, none, none, none, none, none] [] := by
  intro n
  induction n with
  | zero => intro l0 l1 l2 l3 l4 l5 σ hm h; cases h
  | succ n ih =>
    intro l0 l1 l2 l3 l4 l5 σ hm h
    obtain ⟨my1, my2⟩ := uL_law_125 hU115 (n + 1) _ _ _ _ _ _ _ h
    unfold DL_law_125 at h
    obtain ⟨hm1, hm2⟩ := hm
    obtain ⟨hR1, hR2, hR3, hR4⟩ := id hR
    refine x_iload (pc := 125) C dL_law_125 rfl ?_
    refine x_aload_n (pc := 127) C dL_law_127 rfl rfl ?_
    obtain ⟨v1, σ2, k, h⟩ := bnd_s h
    obtain ⟨mσ2a, mσ2b⟩ := umL_tickets k
    refine x_callS1 (pc := 128) C (mL_tickets E l k) cL_133 zL_tickets rfl rfl (Nat.le_of_ble_eq_true rfl) ⟨(Nat.le_trans (Nat.le_of_ble_eq_true rfl) hR1), (Nat.le_trans (m := 40 * 10) (Nat.le_of_ble_eq_true rfl) hR2), by omega, by omega⟩ dL_law_128 ?_
    refine x_icmp_ge (pc := 131) (tgt := 506) C dL_law_131 (by decide) (fun q => ?_) (fun q => ?_)
    · rw [if_pos q] at h
      exact x_sub (x_wide (by omega) (by omega) (tL_law_506 C hr hR hend hK115 hU115 ⟨by omega, by omega⟩ h)) (xLe_s (xLe_s (xLe_s (xLe_s (xLe_s (xLe_n (xLe_n (xLe_n (xLe_n (xLe_n (xLe_n (xLe_n (xLe_n xLe_0)))))))))))))
    · rw [if_neg q] at h
      refine x_aload_n (pc := 134) C dL_law_134 rfl rfl ?_
      refine x_iload (pc := 135) C dL_law_135 rfl ?_
      refine x_aload_n (pc := 137) C dL_law_137 rfl rfl ?_
      refine x_iload (pc := 138) C dL_law_138 rfl ?_
      obtain ⟨v3, σ4, k, h⟩ := bnd_s h
      obtain ⟨mσ4a, mσ4b⟩ := umL_how k
      refine x_callS1 (pc := 140) C (mL_how E l k) cL_141 zL_how rfl rfl (Nat.le_of_ble_eq_true rfl) ⟨(Nat.le_trans (Nat.le_of_ble_eq_true rfl) hR1), (Nat.le_trans (m := 40 * 10) (Nat.le_of_ble_eq_true rfl) hR2), by omega, by omega⟩ dL_law_140 ?_
      refine x_aload_n (pc := 143) C dL_law_143 rfl rfl ?_
      refine x_iload (pc := 144) C dL_law_144 rfl ?_
      obtain ⟨k, h⟩ := chk_s h
      have k2 := k
      obtain ⟨k, h⟩ := chk_s h
      refine x_daald (pc := 146) C k2 k dL_law_146 ?_
      refine x_aload_n (pc := 147) C dL_law_147 rfl rfl ?_
      refine x_iload (pc := 148) C dL_law_148 rfl ?_
      obtain ⟨k, h⟩ := chk_s h
      have k2 := k
      obtain ⟨k, h⟩ := chk_s h
      refine x_daald (pc := 150) C k2 k dL_law_150 ?_
      refine x_iconst (v := -1) (pc := 151) C dL_law_151 (by decide) ?_
      refine x_iconst (v := 0) (pc := 152) C dL_law_152 (by decide) ?_
      obtain ⟨v5, σ6, k, h⟩ := bnd_s h
      obtain ⟨mσ6a, mσ6b⟩ := umL_found k
      obtain ⟨mz1, mz2⟩ := uL_law_156 hU115 (fun a0 a1 a2 a3 a4 a5 a6 h => uL_law_125 hU115 n a0 a1 a2 a3 a4 a5 a6 h) h
      refine x_callS1 (pc := 153) C (mL_found E l k) cL_258 zL_found rfl rfl (Nat.le_of_ble_eq_true rfl) ⟨(Nat.le_trans (Nat.le_of_ble_eq_true rfl) hR1), (Nat.le_trans (m := 40 * 10) (Nat.le_of_ble_eq_true rfl) hR2), by omega, by omega⟩ dL_law_153 ?_
      exact x_sub (x_wide (by omega) (by omega) (tL_law_156 C hr hR hend hK115 hU115 (fun a0 a1 a2 a3 a4 a5 a6 hm => ih a0 a1 a2 a3 a4 a5 a6 hm) (fun a0 a1 a2 a3 a4 a5 a6 h => uL_law_125 hU115 n a0 a1 a2 a3 a4 a5 a6 h) ⟨by omega, by omega⟩ h)) (xLe_s (xLe_s (xLe_s (xLe_s (xLe_s (xLe_s (xLe_n (xLe_n (xLe_n (xLe_n (xLe_n (xLe_n (xLe_n xLe_0)))))))))))))
def DL_law_681 (s0 : Int32) (σ : Sg) : Option (Int32 × Sg) :=
  some (s0, σ)
theorem uL_law_681 {r : Int32} {σ' : Sg} {s0 : Int32} {σ : Sg} (h : DL_law_681 s0 σ = some (r, σ')) : Mo σ σ' := by
  unfold DL_law_681 at h
  cases h
  exact ⟨by omega, by omega⟩
theorem tL_law_681 {r : Int32} {σ' : Sg} (C : Cx E p s m args meth c "ProratesLaw" cL_law 13) (hr : meth.sig.returnType = (some .boolean)) (hR : RR R 10 (c0 + (gM σ' - gM σ0)) (z0 + (gZ σ' - gZ σ0))) (hend : ∀ (pc : Nat) (L : List (Option Value)), decode cL_law pc = .ok (.ireturn, 1) → X E p l e R s m args below meth c Q 13 (c0 + (gM σ' - gM σ0)) (z0 + (gZ σ' - gZ σ0)) σ' pc L [.int r]) {s0 : Int32} {σ : Sg} (hm : Mo σ0 σ) (h : DL_law_681 s0 σ = some (r, σ')) : X E p l e R s m args below meth c Q 13 (c0 + (gM σ - gM σ0)) (z0 + (gZ σ - gZ σ0)) σ 681 [none, none, none, none, none, none, none, none, none, none, none, none, none] [.int s0] := by
  obtain ⟨my1, my2⟩ := uL_law_681 h
  unfold DL_law_681 at h
  obtain ⟨hm1, hm2⟩ := hm
  obtain ⟨hR1, hR2, hR3, hR4⟩ := id hR
  cases h
  exact x_wide (by omega) (by omega) (hend _ _ dL_law_681)
def DL_law_680 (σ : Sg) : Option (Int32 × Sg) :=
  DL_law_681 (0 : Int32) σ
theorem uL_law_680 {r : Int32} {σ' : Sg} {σ : Sg} (h : DL_law_680  σ = some (r, σ')) : Mo σ σ' := by
  unfold DL_law_680 at h
  obtain ⟨mz1, mz2⟩ := uL_law_681 h
  exact ⟨by omega, by omega⟩
theorem tL_law_680 {r : Int32} {σ' : Sg} (C : Cx E p s m args meth c "ProratesLaw" cL_law 13) (hr : meth.sig.returnType = (some .boolean)) (hR : RR R 10 (c0 + (gM σ' - gM σ0)) (z0 + (gZ σ' - gZ σ0))) (hend : ∀ (pc : Nat) (L : List (Option Value)), decode cL_law pc = .ok (.ireturn, 1) → X E p l e R s m args below meth c Q 13 (c0 + (gM σ' - gM σ0)) (z0 + (gZ σ' - gZ σ0)) σ' pc L [.int r]) {σ : Sg} (hm : Mo σ0 σ) (h : DL_law_680  σ = some (r, σ')) : X E p l e R s m args below meth c Q 13 (c0 + (gM σ - gM σ0)) (z0 + (gZ σ - gZ σ0)) σ 680 [none, none, none, none, none, none, none, none, none, none, none, none, none] [] := by
  obtain ⟨my1, my2⟩ := uL_law_680 h
  unfold DL_law_680 at h
  obtain ⟨hm1, hm2⟩ := hm
  obtain ⟨hR1, hR2, hR3, hR4⟩ := id hR
  refine x_iconst (v := 0) (pc := 680) C dL_law_680 (by decide) ?_
  exact x_sub (x_wide (by omega) (by omega) (tL_law_681 C hr hR hend ⟨by omega, by omega⟩ h)) (xLe_n (xLe_n (xLe_n (xLe_n (xLe_n (xLe_n (xLe_n (xLe_n (xLe_n (xLe_n (xLe_n (xLe_n (xLe_n xLe_0)))))))))))))
def DL_law_638 (l0 : Nat) (l1 : Nat) (σ : Sg) : Option (Int32 × Sg) :=
  bnd (DL_tickets l0 σ) fun v1 σ2 =>
  chk (ckO σ2 5 l1) <|
  bnd (DX7_share l1 v1 (0 : Int32) σ2) fun v3 σ4 =>
  chk (ckT2 σ2 σ4) <|
  if v3 = (-1 : Int32) then
    chk (ckO σ4 5 l1) <|
    bnd (DX7_straight l1 (0 : Int32) (8 : Int32) σ4) fun v5 σ6 =>
    chk (ckT2 σ4 σ6) <|
    if v5 = (-1 : Int32) then
      bnd (DL_provisos l0 σ6) fun v7 σ8 =>
      chk (ckO σ8 5 l1) <|
      bnd (DX7_without l1 v7 (0 : Int32) (0 : Int32) σ8) fun v9 σ10 =>
      chk (ckT2 σ8 σ10) <|
      if v9 = (-1 : Int32) then
        DL_law_681 (1 : Int32) σ10
      else
        DL_law_680 σ10
    else
      DL_law_680 σ6
  else
    DL_law_680 σ4
theorem uL_law_638 {r : Int32} {σ' : Sg} {l0 : Nat} {l1 : Nat} {σ : Sg} (h : DL_law_638 l0 l1 σ = some (r, σ')) : Mo σ σ' := by
  unfold DL_law_638 at h
  obtain ⟨v1, σ2, k, h⟩ := bnd_s h
  obtain ⟨mσ2a, mσ2b⟩ := umL_tickets k
  obtain ⟨k, h⟩ := chk_s h
  obtain ⟨v3, σ4, k, h⟩ := bnd_s h
  obtain ⟨kt, h⟩ := chk_s h
  obtain ⟨mσ4a, mσ4b⟩ := ckT2_s kt
  by_cases q : v3 = (-1 : Int32)
  · rw [if_pos q] at h
    obtain ⟨k, h⟩ := chk_s h
    obtain ⟨v5, σ6, k, h⟩ := bnd_s h
    obtain ⟨kt, h⟩ := chk_s h
    obtain ⟨mσ6a, mσ6b⟩ := ckT2_s kt
    by_cases q : v5 = (-1 : Int32)
    · rw [if_pos q] at h
      obtain ⟨v7, σ8, k, h⟩ := bnd_s h
      obtain ⟨mσ8a, mσ8b⟩ := umL_provisos k
      obtain ⟨k, h⟩ := chk_s h
      obtain ⟨v9, σ10, k, h⟩ := bnd_s h
      obtain ⟨kt, h⟩ := chk_s h
      obtain ⟨mσ10a, mσ10b⟩ := ckT2_s kt
      by_cases q : v9 = (-1 : Int32)
      · rw [if_pos q] at h
        obtain ⟨mz1, mz2⟩ := uL_law_681 h
        exact ⟨by omega, by omega⟩
      · rw [if_neg q] at h
        obtain ⟨mz1, mz2⟩ := uL_law_680 h
        exact ⟨by omega, by omega⟩
    · rw [if_neg q] at h
      obtain ⟨mz1, mz2⟩ := uL_law_680 h
      exact ⟨by omega, by omega⟩
  · rw [if_neg q] at h
    obtain ⟨mz1, mz2⟩ := uL_law_680 h
    exact ⟨by omega, by omega⟩
theorem tL_law_638 {r : Int32} {σ' : Sg} (C : Cx E p s m args meth c "ProratesLaw" cL_law 13) (hr : meth.sig.returnType = (some .boolean)) (hR : RR R 10 (c0 + (gM σ' - gM σ0)) (z0 + (gZ σ' - gZ σ0))) (hend : ∀ (pc : Nat) (L : List (Option Value)), decode cL_law pc = .ok (.ireturn, 1) → X E p l e R s m args below meth c Q 13 (c0 + (gM σ' - gM σ0)) (z0 + (gZ σ' - gZ σ0)) σ' pc L [.int r]) {l0 : Nat} {l1 : Nat} {σ : Sg} (hm : Mo σ0 σ) (h : DL_law_638 l0 l1 σ = some (r, σ')) : X E p l e R s m args below meth c Q 13 (c0 + (gM σ - gM σ0)) (z0 + (gZ σ - gZ σ0)) σ 638 [some (.ref (ad E l0)), some (.ref (ad E l1)), none, none, none, none, none, none, none, none, none, none, none] [] := by
  obtain ⟨my1, my2⟩ := uL_law_638 h
  unfold DL_law_638 at h
  obtain ⟨hm1, hm2⟩ := hm
  obtain ⟨hR1, hR2, hR3, hR4⟩ := id hR
  refine x_aload_n (pc := 638) C dL_law_638 rfl rfl ?_
  refine x_aload_n (pc := 639) C dL_law_639 rfl rfl ?_
  obtain ⟨v1, σ2, k, h⟩ := bnd_s h
  obtain ⟨mσ2a, mσ2b⟩ := umL_tickets k
  refine x_callS1 (pc := 640) C (mL_tickets E l k) cL_133 zL_tickets rfl rfl (Nat.le_of_ble_eq_true rfl) ⟨(Nat.le_trans (Nat.le_of_ble_eq_true rfl) hR1), (Nat.le_trans (m := 40 * 10) (Nat.le_of_ble_eq_true rfl) hR2), by omega, by omega⟩ dL_law_640 ?_
  refine x_iconst (v := 0) (pc := 643) C dL_law_643 (by decide) ?_
  obtain ⟨k, h⟩ := chk_s h
  have k2 := k
  obtain ⟨v3, σ4, k, h⟩ := bnd_s h
  obtain ⟨kt, h⟩ := chk_s h
  obtain ⟨mσ4a, mσ4b⟩ := ckT2_s kt
  refine x_callV1 (pc := 644) C (mX7_share E l k) cl5 k2 cL_237 nX7_share sX7_share rfl rfl (Nat.le_of_ble_eq_true rfl) ⟨(Nat.le_trans (Nat.le_of_ble_eq_true rfl) hR1), (Nat.le_trans (m := 40 * 10) (Nat.le_of_ble_eq_true rfl) hR2), by omega, by omega⟩ dL_law_644 ?_
  refine x_iconst (v := -1) (pc := 647) C dL_law_647 (by decide) ?_
  refine x_icmp_ne (pc := 648) (tgt := 680) C dL_law_648 (by decide) (fun q => ?_) (fun q => ?_)
  · rw [if_pos q] at h
    refine x_aload_n (pc := 651) C dL_law_651 rfl rfl ?_
    refine x_iconst (v := 0) (pc := 652) C dL_law_652 (by decide) ?_
    refine x_bipush (v := 8) (pc := 653) C dL_law_653 (by decide) ?_
    obtain ⟨k, h⟩ := chk_s h
    have k2 := k
    obtain ⟨v5, σ6, k, h⟩ := bnd_s h
    obtain ⟨kt, h⟩ := chk_s h
    obtain ⟨mσ6a, mσ6b⟩ := ckT2_s kt
    refine x_callV1 (pc := 655) C (mX7_straight E l k) cl5 k2 cL_266 nX7_straight sX7_straight rfl rfl (Nat.le_of_ble_eq_true rfl) ⟨(Nat.le_trans (Nat.le_of_ble_eq_true rfl) hR1), (Nat.le_trans (m := 40 * 10) (Nat.le_of_ble_eq_true rfl) hR2), by omega, by omega⟩ dL_law_655 ?_
    refine x_iconst (v := -1) (pc := 658) C dL_law_658 (by decide) ?_
    refine x_icmp_ne (pc := 659) (tgt := 680) C dL_law_659 (by decide) (fun q => ?_) (fun q => ?_)
    · rw [if_pos q] at h
      refine x_aload_n (pc := 662) C dL_law_662 rfl rfl ?_
      refine x_aload_n (pc := 663) C dL_law_663 rfl rfl ?_
      obtain ⟨v7, σ8, k, h⟩ := bnd_s h
      obtain ⟨mσ8a, mσ8b⟩ := umL_provisos k
      refine x_callS1 (pc := 664) C (mL_provisos E l k) cL_106 zL_provisos rfl rfl (Nat.le_of_ble_eq_true rfl) ⟨(Nat.le_trans (Nat.le_of_ble_eq_true rfl) hR1), (Nat.le_trans (m := 40 * 10) (Nat.le_of_ble_eq_true rfl) hR2), by omega, by omega⟩ dL_law_664 ?_
      refine x_iconst (v := 0) (pc := 667) C dL_law_667 (by decide) ?_
      refine x_iconst (v := 0) (pc := 668) C dL_law_668 (by decide) ?_
      obtain ⟨k, h⟩ := chk_s h
      have k2 := k
      obtain ⟨v9, σ10, k, h⟩ := bnd_s h
      obtain ⟨kt, h⟩ := chk_s h
      obtain ⟨mσ10a, mσ10b⟩ := ckT2_s kt
      refine x_callV1 (pc := 669) C (mX7_without E l k) cl5 k2 cL_272 nX7_without sX7_without rfl rfl (Nat.le_of_ble_eq_true rfl) ⟨(Nat.le_trans (Nat.le_of_ble_eq_true rfl) hR1), (Nat.le_trans (m := 40 * 10) (Nat.le_of_ble_eq_true rfl) hR2), by omega, by omega⟩ dL_law_669 ?_
      refine x_iconst (v := -1) (pc := 672) C dL_law_672 (by decide) ?_
      refine x_icmp_ne (pc := 673) (tgt := 680) C dL_law_673 (by decide) (fun q => ?_) (fun q => ?_)
      · rw [if_pos q] at h
        refine x_iconst (v := 1) (pc := 676) C dL_law_676 (by decide) ?_
        refine x_goto (tgt := 681) (pc := 677) C dL_law_677 (by decide) ?_
        exact x_sub (x_wide (by omega) (by omega) (tL_law_681 C hr hR hend ⟨by omega, by omega⟩ h)) (xLe_n (xLe_n (xLe_n (xLe_n (xLe_n (xLe_n (xLe_n (xLe_n (xLe_n (xLe_n (xLe_n (xLe_n (xLe_n xLe_0)))))))))))))
      · rw [if_neg q] at h
        exact x_sub (x_wide (by omega) (by omega) (tL_law_680 C hr hR hend ⟨by omega, by omega⟩ h)) (xLe_n (xLe_n (xLe_n (xLe_n (xLe_n (xLe_n (xLe_n (xLe_n (xLe_n (xLe_n (xLe_n (xLe_n (xLe_n xLe_0)))))))))))))
    · rw [if_neg q] at h
      exact x_sub (x_wide (by omega) (by omega) (tL_law_680 C hr hR hend ⟨by omega, by omega⟩ h)) (xLe_n (xLe_n (xLe_n (xLe_n (xLe_n (xLe_n (xLe_n (xLe_n (xLe_n (xLe_n (xLe_n (xLe_n (xLe_n xLe_0)))))))))))))
  · rw [if_neg q] at h
    exact x_sub (x_wide (by omega) (by omega) (tL_law_680 C hr hR hend ⟨by omega, by omega⟩ h)) (xLe_n (xLe_n (xLe_n (xLe_n (xLe_n (xLe_n (xLe_n (xLe_n (xLe_n (xLe_n (xLe_n (xLe_n (xLe_n xLe_0)))))))))))))
def DL_law_115 : Nat → Nat → Nat → Nat → Nat → Int32 → Sg → Option (Int32 × Sg)
  | 0, _, _, _, _, _, _ => none
  | n + 1, l0, l1, l2, l3, l4, σ =>
    if (8 : Int32) ≤ l4 then
      DL_law_638 l0 l1 σ
    else
      DL_law_125 (DL_law_115 n) FU l0 l1 l2 l3 l4 (0 : Int32) σ
theorem uL_law_115 {r : Int32} {σ' : Sg} : ∀ (n : Nat) (l0 : Nat) (l1 : Nat) (l2 : Nat) (l3 : Nat) (l4 : Int32) (σ : Sg) (h : DL_law_115 n l0 l1 l2 l3 l4 σ = some (r, σ')), Mo σ σ' := by
  intro n
  induction n with
  | zero => intro l0 l1 l2 l3 l4 σ h; cases h
  | succ n ih =>
    intro l0 l1 l2 l3 l4 σ h
    unfold DL_law_115 at h
    by_cases q : (8 : Int32) ≤ l4
    · rw [if_pos q] at h
      obtain ⟨mz1, mz2⟩ := uL_law_638 h
      exact ⟨by omega, by omega⟩
    · rw [if_neg q] at h
      obtain ⟨mz1, mz2⟩ := uL_law_125 (fun a0 a1 a2 a3 a4 a5 h => ih a0 a1 a2 a3 a4 a5 h) FU _ _ _ _ _ _ _ h
      exact ⟨by omega, by omega⟩
theorem tL_law_115 {r : Int32} {σ' : Sg} (C : Cx E p s m args meth c "ProratesLaw" cL_law 13) (hr : meth.sig.returnType = (some .boolean)) (hR : RR R 10 (c0 + (gM σ' - gM σ0)) (z0 + (gZ σ' - gZ σ0))) (hend : ∀ (pc : Nat) (L : List (Option Value)), decode cL_law pc = .ok (.ireturn, 1) → X E p l e R s m args below meth c Q 13 (c0 + (gM σ' - gM σ0)) (z0 + (gZ σ' - gZ σ0)) σ' pc L [.int r]) : ∀ (n : Nat) (l0 : Nat) (l1 : Nat) (l2 : Nat) (l3 : Nat) (l4 : Int32) (σ : Sg) (hm : Mo σ0 σ) (h : DL_law_115 n l0 l1 l2 l3 l4 σ = some (r, σ')), X E p l e R s m args below meth c Q 13 (c0 + (gM σ - gM σ0)) (z0 + (gZ σ - gZ σ0)) σ 115 [some (.ref (ad E l0)), some (.ref (ad E l1)), some (.ref (ad E l2)), some (.ref (ad E l3)), some (.int l4), none, none, none, none, none, none, none, none] [] := by
  intro n
  induction n with
  | zero => intro l0 l1 l2 l3 l4 σ hm h; cases h
  | succ n ih =>
    intro l0 l1 l2 l3 l4 σ hm h
    obtain ⟨my1, my2⟩ := uL_law_115 (n + 1) _ _ _ _ _ _ h
    unfold DL_law_115 at h
    obtain ⟨hm1, hm2⟩ := hm
    obtain ⟨hR1, hR2, hR3, hR4⟩ := id hR
    refine x_iload (pc := 115) C dL_law_115 rfl ?_
    refine x_bipush (v := 8) (pc := 117) C dL_law_117 (by decide) ?_
    refine x_icmp_ge (pc := 119) (tgt := 638) C dL_law_119 (by decide) (fun q => ?_) (fun q => ?_)
    · rw [if_pos q] at h
      exact x_sub (x_wide (by omega) (by omega) (tL_law_638 C hr hR hend ⟨by omega, by omega⟩ h)) (xLe_s (xLe_s (xLe_n (xLe_n (xLe_n (xLe_n (xLe_n (xLe_n (xLe_n (xLe_n (xLe_n (xLe_n (xLe_n xLe_0)))))))))))))
    · rw [if_neg q] at h
      refine x_iconst (v := 0) (pc := 122) C dL_law_122 (by decide) ?_
      refine x_istore (M := [some _, some _, some _, some _, some _, some _, none, none, none, none, none, none, none]) (pc := 123) C dL_law_123 (by decide) rfl ?_
      exact x_sub (x_wide (by omega) (by omega) (tL_law_125 C hr hR hend (fun a0 a1 a2 a3 a4 a5 hm => ih a0 a1 a2 a3 a4 a5 hm) (fun a0 a1 a2 a3 a4 a5 h => uL_law_115 n a0 a1 a2 a3 a4 a5 h) FU _ _ _ _ _ _ _ ⟨by omega, by omega⟩ h)) (xLe_s (xLe_s (xLe_s (xLe_s (xLe_s (xLe_s (xLe_n (xLe_n (xLe_n (xLe_n (xLe_n (xLe_n (xLe_n xLe_0)))))))))))))
def DL_law_112 (l0 : Nat) (l1 : Nat) (l2 : Nat) (l3 : Nat) (σ : Sg) : Option (Int32 × Sg) :=
  DL_law_115 FU l0 l1 l2 l3 (0 : Int32) σ
theorem uL_law_112 {r : Int32} {σ' : Sg} {l0 : Nat} {l1 : Nat} {l2 : Nat} {l3 : Nat} {σ : Sg} (h : DL_law_112 l0 l1 l2 l3 σ = some (r, σ')) : Mo σ σ' := by
  unfold DL_law_112 at h
  obtain ⟨mz1, mz2⟩ := uL_law_115 FU _ _ _ _ _ _ h
  exact ⟨by omega, by omega⟩
theorem tL_law_112 {r : Int32} {σ' : Sg} (C : Cx E p s m args meth c "ProratesLaw" cL_law 13) (hr : meth.sig.returnType = (some .boolean)) (hR : RR R 10 (c0 + (gM σ' - gM σ0)) (z0 + (gZ σ' - gZ σ0))) (hend : ∀ (pc : Nat) (L : List (Option Value)), decode cL_law pc = .ok (.ireturn, 1) → X E p l e R s m args below meth c Q 13 (c0 + (gM σ' - gM σ0)) (z0 + (gZ σ' - gZ σ0)) σ' pc L [.int r]) {l0 : Nat} {l1 : Nat} {l2 : Nat} {l3 : Nat} {σ : Sg} (hm : Mo σ0 σ) (h : DL_law_112 l0 l1 l2 l3 σ = some (r, σ')) : X E p l e R s m args below meth c Q 13 (c0 + (gM σ - gM σ0)) (z0 + (gZ σ - gZ σ0)) σ 112 [some (.ref (ad E l0)), some (.ref (ad E l1)), some (.ref (ad E l2)), some (.ref (ad E l3)), none, none, none, none, none, none, none, none, none] [] := by
  obtain ⟨my1, my2⟩ := uL_law_112 h
  unfold DL_law_112 at h
  obtain ⟨hm1, hm2⟩ := hm
  obtain ⟨hR1, hR2, hR3, hR4⟩ := id hR
  refine x_iconst (v := 0) (pc := 112) C dL_law_112 (by decide) ?_
  refine x_istore (M := [some _, some _, some _, some _, some _, none, none, none, none, none, none, none, none]) (pc := 113) C dL_law_113 (by decide) rfl ?_
  exact x_sub (x_wide (by omega) (by omega) (tL_law_115 C hr hR hend FU _ _ _ _ _ _ ⟨by omega, by omega⟩ h)) (xLe_s (xLe_s (xLe_s (xLe_s (xLe_s (xLe_n (xLe_n (xLe_n (xLe_n (xLe_n (xLe_n (xLe_n (xLe_n xLe_0)))))))))))))
def DL_law_30 : Nat → Nat → Nat → Nat → Nat → Int32 → Sg → Option (Int32 × Sg)
  | 0, _, _, _, _, _, _ => none
  | n + 1, l0, l1, l2, l3, l4, σ =>
    bnd (DL_tickets l0 σ) fun v1 σ2 =>
    if v1 ≤ l4 then
      DL_law_112 l0 l1 l2 l3 σ2
    else
      bnd (DL_coupons l0 l4 σ2) fun v3 σ4 =>
      chk (ckn v3) <|
      chk (ck51 σ4) <|
      wlet (mkD σ4 2 v3.toNatClampNeg v3.toNatClampNeg) fun σ5 =>
      DL_law_50 (DL_law_30 n) l0 l1 l2 l3 l4 l2 l4 (2000 + gM σ4) σ5
theorem uL_law_30 {r : Int32} {σ' : Sg} : ∀ (n : Nat) (l0 : Nat) (l1 : Nat) (l2 : Nat) (l3 : Nat) (l4 : Int32) (σ : Sg) (h : DL_law_30 n l0 l1 l2 l3 l4 σ = some (r, σ')), Mo σ σ' := by
  intro n
  induction n with
  | zero => intro l0 l1 l2 l3 l4 σ h; cases h
  | succ n ih =>
    intro l0 l1 l2 l3 l4 σ h
    unfold DL_law_30 at h
    obtain ⟨v1, σ2, k, h⟩ := bnd_s h
    obtain ⟨mσ2a, mσ2b⟩ := umL_tickets k
    by_cases q : v1 ≤ l4
    · rw [if_pos q] at h
      obtain ⟨mz1, mz2⟩ := uL_law_112 h
      exact ⟨by omega, by omega⟩
    · rw [if_neg q] at h
      obtain ⟨v3, σ4, k, h⟩ := bnd_s h
      obtain ⟨mσ4a, mσ4b⟩ := umL_coupons k
      obtain ⟨kn, h⟩ := chk_s h
      obtain ⟨k5, h⟩ := chk_s h
      obtain ⟨σ5, e1, h⟩ := wlet_s h
      have mσ5 : gM σ5 = gM σ4 + 1 ∧ gZ σ5 = gZ σ4 + v3.toNatClampNeg := by rw [e1]; exact ⟨rfl, rfl⟩
      obtain ⟨mσ5a, mσ5b⟩ := mσ5
      obtain ⟨mz1, mz2⟩ := uL_law_50 (fun a0 a1 a2 a3 a4 a5 h => ih a0 a1 a2 a3 a4 a5 h) h
      exact ⟨by omega, by omega⟩
theorem tL_law_30 {r : Int32} {σ' : Sg} (C : Cx E p s m args meth c "ProratesLaw" cL_law 13) (hr : meth.sig.returnType = (some .boolean)) (hR : RR R 10 (c0 + (gM σ' - gM σ0)) (z0 + (gZ σ' - gZ σ0))) (hend : ∀ (pc : Nat) (L : List (Option Value)), decode cL_law pc = .ok (.ireturn, 1) → X E p l e R s m args below meth c Q 13 (c0 + (gM σ' - gM σ0)) (z0 + (gZ σ' - gZ σ0)) σ' pc L [.int r]) : ∀ (n : Nat) (l0 : Nat) (l1 : Nat) (l2 : Nat) (l3 : Nat) (l4 : Int32) (σ : Sg) (hm : Mo σ0 σ) (h : DL_law_30 n l0 l1 l2 l3 l4 σ = some (r, σ')), X E p l e R s m args below meth c Q 13 (c0 + (gM σ - gM σ0)) (z0 + (gZ σ - gZ σ0)) σ 30 [some (.ref (ad E l0)), some (.ref (ad E l1)), some (.ref (ad E l2)), some (.ref (ad E l3)), some (.int l4), none, none, none, none, none, none, none, none] [] := by
  intro n
  induction n with
  | zero => intro l0 l1 l2 l3 l4 σ hm h; cases h
  | succ n ih =>
    intro l0 l1 l2 l3 l4 σ hm h
    obtain ⟨my1, my2⟩ := uL_law_30 (n + 1) _ _ _ _ _ _ h
    unfold DL_law_30 at h
    obtain ⟨hm1, hm2⟩ := hm
    obtain ⟨hR1, hR2, hR3, hR4⟩ := id hR
    refine x_iload (pc := 30) C dL_law_30 rfl ?_
    refine x_aload_n (pc := 32) C dL_law_32 rfl rfl ?_
    obtain ⟨v1, σ2, k, h⟩ := bnd_s h
    obtain ⟨mσ2a, mσ2b⟩ := umL_tickets k
    refine x_callS1 (pc := 33) C (mL_tickets E l k) cL_133 zL_tickets rfl rfl (Nat.le_of_ble_eq_true rfl) ⟨(Nat.le_trans (Nat.le_of_ble_eq_true rfl) hR1), (Nat.le_trans (m := 40 * 10) (Nat.le_of_ble_eq_true rfl) hR2), by omega, by omega⟩ dL_law_33 ?_
    refine x_icmp_ge (pc := 36) (tgt := 112) C dL_law_36 (by decide) (fun q => ?_) (fun q => ?_)
    · rw [if_pos q] at h
      exact x_sub (x_wide (by omega) (by omega) (tL_law_112 C hr hR hend ⟨by omega, by omega⟩ h)) (xLe_s (xLe_s (xLe_s (xLe_s (xLe_n (xLe_n (xLe_n (xLe_n (xLe_n (xLe_n (xLe_n (xLe_n (xLe_n xLe_0)))))))))))))
    · rw [if_neg q] at h
      refine x_aload_n (pc := 39) C dL_law_39 rfl rfl ?_
      refine x_iload (pc := 40) C dL_law_40 rfl ?_
      refine x_aload_n (pc := 42) C dL_law_42 rfl rfl ?_
      refine x_iload (pc := 43) C dL_law_43 rfl ?_
      obtain ⟨v3, σ4, k, h⟩ := bnd_s h
      obtain ⟨mσ4a, mσ4b⟩ := umL_coupons k
      refine x_callS1 (pc := 45) C (mL_coupons E l k) cL_151 zL_coupons rfl rfl (Nat.le_of_ble_eq_true rfl) ⟨(Nat.le_trans (Nat.le_of_ble_eq_true rfl) hR1), (Nat.le_trans (m := 40 * 10) (Nat.le_of_ble_eq_true rfl) hR2), by omega, by omega⟩ dL_law_45 ?_
      obtain ⟨kn, h⟩ := chk_s h
      obtain ⟨k5, h⟩ := chk_s h
      obtain ⟨σ5, e1, h⟩ := wlet_s h
      have mσ5 : gM σ5 = gM σ4 + 1 ∧ gZ σ5 = gZ σ4 + v3.toNatClampNeg := by rw [e1]; exact ⟨rfl, rfl⟩
      obtain ⟨mσ5a, mσ5b⟩ := mσ5
      obtain ⟨mz1, mz2⟩ := uL_law_50 (fun a0 a1 a2 a3 a4 a5 h => uL_law_30 n a0 a1 a2 a3 a4 a5 h) h
      refine x_dnewI (pc := 48) C aaI kn k5 ⟨by omega, by omega⟩ dL_law_48 (x_eq e1 ?_)
      exact x_sub (x_wide (by omega) (by omega) (tL_law_50 C hr hR hend (fun a0 a1 a2 a3 a4 a5 hm => ih a0 a1 a2 a3 a4 a5 hm) (fun a0 a1 a2 a3 a4 a5 h => uL_law_30 n a0 a1 a2 a3 a4 a5 h) ⟨by omega, by omega⟩ h)) (xLe_s (xLe_s (xLe_s (xLe_s (xLe_s (xLe_n (xLe_n (xLe_n (xLe_n (xLe_n (xLe_n (xLe_n (xLe_n xLe_0)))))))))))))
def DL_law_26 (l0 : Nat) (l1 : Nat) (l2 : Nat) (s0 : Nat) (σ : Sg) : Option (Int32 × Sg) :=
  DL_law_30 FU l0 l1 l2 s0 (0 : Int32) σ
theorem uL_law_26 {r : Int32} {σ' : Sg} {l0 : Nat} {l1 : Nat} {l2 : Nat} {s0 : Nat} {σ : Sg} (h : DL_law_26 l0 l1 l2 s0 σ = some (r, σ')) : Mo σ σ' := by
  unfold DL_law_26 at h
  obtain ⟨mz1, mz2⟩ := uL_law_30 FU _ _ _ _ _ _ h
  exact ⟨by omega, by omega⟩
theorem tL_law_26 {r : Int32} {σ' : Sg} (C : Cx E p s m args meth c "ProratesLaw" cL_law 13) (hr : meth.sig.returnType = (some .boolean)) (hR : RR R 10 (c0 + (gM σ' - gM σ0)) (z0 + (gZ σ' - gZ σ0))) (hend : ∀ (pc : Nat) (L : List (Option Value)), decode cL_law pc = .ok (.ireturn, 1) → X E p l e R s m args below meth c Q 13 (c0 + (gM σ' - gM σ0)) (z0 + (gZ σ' - gZ σ0)) σ' pc L [.int r]) {l0 : Nat} {l1 : Nat} {l2 : Nat} {s0 : Nat} {σ : Sg} (hm : Mo σ0 σ) (h : DL_law_26 l0 l1 l2 s0 σ = some (r, σ')) : X E p l e R s m args below meth c Q 13 (c0 + (gM σ - gM σ0)) (z0 + (gZ σ - gZ σ0)) σ 26 [some (.ref (ad E l0)), some (.ref (ad E l1)), some (.ref (ad E l2)), none, none, none, none, none, none, none, none, none, none] [.ref (ad E s0)] := by
  obtain ⟨my1, my2⟩ := uL_law_26 h
  unfold DL_law_26 at h
  obtain ⟨hm1, hm2⟩ := hm
  obtain ⟨hR1, hR2, hR3, hR4⟩ := id hR
  refine x_astore_n (M := [some _, some _, some _, some _, none, none, none, none, none, none, none, none, none]) (pc := 26) C dL_law_26 rfl (by decide) rfl ?_
  refine x_iconst (v := 0) (pc := 27) C dL_law_27 (by decide) ?_
  refine x_istore (M := [some _, some _, some _, some _, some _, none, none, none, none, none, none, none, none]) (pc := 28) C dL_law_28 (by decide) rfl ?_
  exact x_sub (x_wide (by omega) (by omega) (tL_law_30 C hr hR hend FU _ _ _ _ _ _ ⟨by omega, by omega⟩ h)) (xLe_s (xLe_s (xLe_s (xLe_s (xLe_s (xLe_n (xLe_n (xLe_n (xLe_n (xLe_n (xLe_n (xLe_n (xLe_n xLe_0)))))))))))))
def DL_law_18 (l0 : Nat) (l1 : Nat) (s0 : Nat) (σ : Sg) : Option (Int32 × Sg) :=
  bnd (DL_tickets l0 σ) fun v1 σ2 =>
  chk (ckn v1) <|
  chk (ck51 σ2) <|
  wlet (mkD σ2 5 v1.toNatClampNeg v1.toNatClampNeg) fun σ3 =>
  DL_law_26 l0 l1 s0 (2000 + gM σ2) σ3
theorem uL_law_18 {r : Int32} {σ' : Sg} {l0 : Nat} {l1 : Nat} {s0 : Nat} {σ : Sg} (h : DL_law_18 l0 l1 s0 σ = some (r, σ')) : Mo σ σ' := by
  unfold DL_law_18 at h
  obtain ⟨v1, σ2, k, h⟩ := bnd_s h
  obtain ⟨mσ2a, mσ2b⟩ := umL_tickets k
  obtain ⟨kn, h⟩ := chk_s h
  obtain ⟨k5, h⟩ := chk_s h
  obtain ⟨σ3, e1, h⟩ := wlet_s h
  have mσ3 : gM σ3 = gM σ2 + 1 ∧ gZ σ3 = gZ σ2 + v1.toNatClampNeg := by rw [e1]; exact ⟨rfl, rfl⟩
  obtain ⟨mσ3a, mσ3b⟩ := mσ3
  obtain ⟨mz1, mz2⟩ := uL_law_26 h
  exact ⟨by omega, by omega⟩
theorem tL_law_18 {r : Int32} {σ' : Sg} (C : Cx E p s m args meth c "ProratesLaw" cL_law 13) (hr : meth.sig.returnType = (some .boolean)) (hR : RR R 10 (c0 + (gM σ' - gM σ0)) (z0 + (gZ σ' - gZ σ0))) (hend : ∀ (pc : Nat) (L : List (Option Value)), decode cL_law pc = .ok (.ireturn, 1) → X E p l e R s m args below meth c Q 13 (c0 + (gM σ' - gM σ0)) (z0 + (gZ σ' - gZ σ0)) σ' pc L [.int r]) {l0 : Nat} {l1 : Nat} {s0 : Nat} {σ : Sg} (hm : Mo σ0 σ) (h : DL_law_18 l0 l1 s0 σ = some (r, σ')) : X E p l e R s m args below meth c Q 13 (c0 + (gM σ - gM σ0)) (z0 + (gZ σ - gZ σ0)) σ 18 [some (.ref (ad E l0)), some (.ref (ad E l1)), none, none, none, none, none, none, none, none, none, none, none] [.ref (ad E s0)] := by
  obtain ⟨my1, my2⟩ := uL_law_18 h
  unfold DL_law_18 at h
  obtain ⟨hm1, hm2⟩ := hm
  obtain ⟨hR1, hR2, hR3, hR4⟩ := id hR
  refine x_astore_n (M := [some _, some _, some _, none, none, none, none, none, none, none, none, none, none]) (pc := 18) C dL_law_18 rfl (by decide) rfl ?_
  refine x_aload_n (pc := 19) C dL_law_19 rfl rfl ?_
  obtain ⟨v1, σ2, k, h⟩ := bnd_s h
  obtain ⟨mσ2a, mσ2b⟩ := umL_tickets k
  refine x_callS1 (pc := 20) C (mL_tickets E l k) cL_133 zL_tickets rfl rfl (Nat.le_of_ble_eq_true rfl) ⟨(Nat.le_trans (Nat.le_of_ble_eq_true rfl) hR1), (Nat.le_trans (m := 40 * 10) (Nat.le_of_ble_eq_true rfl) hR2), by omega, by omega⟩ dL_law_20 ?_
  obtain ⟨kn, h⟩ := chk_s h
  obtain ⟨k5, h⟩ := chk_s h
  obtain ⟨σ3, e1, h⟩ := wlet_s h
  have mσ3 : gM σ3 = gM σ2 + 1 ∧ gZ σ3 = gZ σ2 + v1.toNatClampNeg := by rw [e1]; exact ⟨rfl, rfl⟩
  obtain ⟨mσ3a, mσ3b⟩ := mσ3
  obtain ⟨mz1, mz2⟩ := uL_law_26 h
  refine x_danew (pc := 23) C waL_257 kn k5 ⟨by omega, by omega⟩ dL_law_23 (x_eq e1 ?_)
  exact x_sub (x_wide (by omega) (by omega) (tL_law_26 C hr hR hend ⟨by omega, by omega⟩ h)) (xLe_s (xLe_s (xLe_s (xLe_n (xLe_n (xLe_n (xLe_n (xLe_n (xLe_n (xLe_n (xLe_n (xLe_n (xLe_n xLe_0)))))))))))))
def DL_law_4 (l0 : Nat) (s0 : Nat) (σ : Sg) : Option (Int32 × Sg) :=
  bnd (DL_tickets l0 σ) fun v1 σ2 =>
  chk (ckn v1) <|
  chk (ck51 σ2) <|
  wlet (mkD σ2 5 v1.toNatClampNeg v1.toNatClampNeg) fun σ3 =>
  DL_law_18 l0 s0 (2000 + gM σ2) σ3
theorem uL_law_4 {r : Int32} {σ' : Sg} {l0 : Nat} {s0 : Nat} {σ : Sg} (h : DL_law_4 l0 s0 σ = some (r, σ')) : Mo σ σ' := by
  unfold DL_law_4 at h
  obtain ⟨v1, σ2, k, h⟩ := bnd_s h
  obtain ⟨mσ2a, mσ2b⟩ := umL_tickets k
  obtain ⟨kn, h⟩ := chk_s h
  obtain ⟨k5, h⟩ := chk_s h
  obtain ⟨σ3, e1, h⟩ := wlet_s h
  have mσ3 : gM σ3 = gM σ2 + 1 ∧ gZ σ3 = gZ σ2 + v1.toNatClampNeg := by rw [e1]; exact ⟨rfl, rfl⟩
  obtain ⟨mσ3a, mσ3b⟩ := mσ3
  obtain ⟨mz1, mz2⟩ := uL_law_18 h
  exact ⟨by omega, by omega⟩
theorem tL_law_4 {r : Int32} {σ' : Sg} (C : Cx E p s m args meth c "ProratesLaw" cL_law 13) (hr : meth.sig.returnType = (some .boolean)) (hR : RR R 10 (c0 + (gM σ' - gM σ0)) (z0 + (gZ σ' - gZ σ0))) (hend : ∀ (pc : Nat) (L : List (Option Value)), decode cL_law pc = .ok (.ireturn, 1) → X E p l e R s m args below meth c Q 13 (c0 + (gM σ' - gM σ0)) (z0 + (gZ σ' - gZ σ0)) σ' pc L [.int r]) {l0 : Nat} {s0 : Nat} {σ : Sg} (hm : Mo σ0 σ) (h : DL_law_4 l0 s0 σ = some (r, σ')) : X E p l e R s m args below meth c Q 13 (c0 + (gM σ - gM σ0)) (z0 + (gZ σ - gZ σ0)) σ 4 [some (.ref (ad E l0)), none, none, none, none, none, none, none, none, none, none, none, none] [.ref (ad E s0)] := by
  obtain ⟨my1, my2⟩ := uL_law_4 h
  unfold DL_law_4 at h
  obtain ⟨hm1, hm2⟩ := hm
  obtain ⟨hR1, hR2, hR3, hR4⟩ := id hR
  refine x_astore_n (M := [some _, some _, none, none, none, none, none, none, none, none, none, none, none]) (pc := 4) C dL_law_4 rfl (by decide) rfl ?_
  refine x_aload_n (pc := 5) C dL_law_5 rfl rfl ?_
  refine x_ifnonnull (tgt := 11) (pc := 6) C dL_law_6 (by decide) ?_
  refine x_aload_n (pc := 11) C dL_law_11 rfl rfl ?_
  obtain ⟨v1, σ2, k, h⟩ := bnd_s h
  obtain ⟨mσ2a, mσ2b⟩ := umL_tickets k
  refine x_callS1 (pc := 12) C (mL_tickets E l k) cL_133 zL_tickets rfl rfl (Nat.le_of_ble_eq_true rfl) ⟨(Nat.le_trans (Nat.le_of_ble_eq_true rfl) hR1), (Nat.le_trans (m := 40 * 10) (Nat.le_of_ble_eq_true rfl) hR2), by omega, by omega⟩ dL_law_12 ?_
  obtain ⟨kn, h⟩ := chk_s h
  obtain ⟨k5, h⟩ := chk_s h
  obtain ⟨σ3, e1, h⟩ := wlet_s h
  have mσ3 : gM σ3 = gM σ2 + 1 ∧ gZ σ3 = gZ σ2 + v1.toNatClampNeg := by rw [e1]; exact ⟨rfl, rfl⟩
  obtain ⟨mσ3a, mσ3b⟩ := mσ3
  obtain ⟨mz1, mz2⟩ := uL_law_18 h
  refine x_danew (pc := 15) C waL_257 kn k5 ⟨by omega, by omega⟩ dL_law_15 (x_eq e1 ?_)
  exact x_sub (x_wide (by omega) (by omega) (tL_law_18 C hr hR hend ⟨by omega, by omega⟩ h)) (xLe_s (xLe_s (xLe_n (xLe_n (xLe_n (xLe_n (xLe_n (xLe_n (xLe_n (xLe_n (xLe_n (xLe_n (xLe_n xLe_0)))))))))))))
end

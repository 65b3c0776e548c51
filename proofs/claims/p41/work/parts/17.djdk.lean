section
variable {E : Ev} {p : Program} {l : Launch} {e : Env} {s : State} {m : MethodId} {args : Array Value} {below : List Frame} {meth : Method} {c : Code} {R : Room} {Q : State → Prop} {σ0 : Sg} {c0 z0 : Nat}
def DJ5_init_d00df_14 (l0 : Nat) (s0 : Nat) (s1 : Nat) (σ : Sg) : Option (Unit × Sg) :=
  chk (ckH σ 8 s0) <|
  chk (ckV s1) <|
  wlet (pR σ s0 0 s1) fun σ1 =>
  chk (ckH σ1 8 l0) <|
  chk (ckK (0 : Int32)) <|
  wlet (pI σ1 l0 1 (0 : Int32)) fun σ2 =>
  some ((), σ2)
theorem uJ5_init_d00df_14 {r : Unit} {σ' : Sg} {l0 : Nat} {s0 : Nat} {s1 : Nat} {σ : Sg} (h : DJ5_init_d00df_14 l0 s0 s1 σ = some (r, σ')) : Mo σ σ' := by
  unfold DJ5_init_d00df_14 at h
  obtain ⟨k, h⟩ := chk_s h
  obtain ⟨k, h⟩ := chk_s h
  obtain ⟨σ1, e1, h⟩ := wlet_s h
  have mσ1 : gM σ1 = gM σ ∧ gZ σ1 = gZ σ := by rw [e1]; exact ⟨rfl, rfl⟩
  obtain ⟨mσ1a, mσ1b⟩ := mσ1
  obtain ⟨k, h⟩ := chk_s h
  obtain ⟨k, h⟩ := chk_s h
  obtain ⟨σ2, e1, h⟩ := wlet_s h
  have mσ2 : gM σ2 = gM σ1 ∧ gZ σ2 = gZ σ1 := by rw [e1]; exact ⟨rfl, rfl⟩
  obtain ⟨mσ2a, mσ2b⟩ := mσ2
  cases h
  exact ⟨by omega, by omega⟩
theorem tJ5_init_d00df_14 {r : Unit} {σ' : Sg} (C : Cx E p s m args meth c RJ5 cJ5_init_d00df 2) (hr : meth.sig.returnType = none) (hn : meth.name = yJ5_init_d00df.name) (hR : RR R 2 (c0 + (gM σ' - gM σ0)) (z0 + (gZ σ' - gZ σ0))) {l0 : Nat} {s0 : Nat} {s1 : Nat} {σ : Sg} (hm : Mo σ0 σ) (h : DJ5_init_d00df_14 l0 s0 s1 σ = some (r, σ')) : X E p l e R s m args below meth c (MQ below (QdX E none σ') args s (c0 + (gM σ' - gM σ0)) (z0 + (gZ σ' - gZ σ0)) (eF E)) 2 (c0 + (gM σ - gM σ0)) (z0 + (gZ σ - gZ σ0)) σ 14 [some (.ref (ad E l0)), none] [.ref (ad E s1), .ref (ad E s0)] := by
  obtain ⟨my1, my2⟩ := uJ5_init_d00df_14 h
  unfold DJ5_init_d00df_14 at h
  obtain ⟨hm1, hm2⟩ := hm
  obtain ⟨hR1, hR2, hR3, hR4⟩ := id hR
  obtain ⟨k, h⟩ := chk_s h
  have k2 := k
  obtain ⟨k, h⟩ := chk_s h
  obtain ⟨σ1, e1, h⟩ := wlet_s h
  have mσ1 : gM σ1 = gM σ ∧ gZ σ1 = gZ σ := by rw [e1]; exact ⟨rfl, rfl⟩
  obtain ⟨mσ1a, mσ1b⟩ := mσ1
  refine x_dputR (pc := 14) C (Or.inl pdJ5_15) (Or.inr ⟨_, rfl⟩) k2 k dJ5_init_d00df_14 (x_eq e1 ?_)
  refine x_aload_n (pc := 17) C dJ5_init_d00df_17 rfl rfl ?_
  refine x_iconst (v := 0) (pc := 18) C dJ5_init_d00df_18 (by decide) ?_
  obtain ⟨k, h⟩ := chk_s h
  have k2 := k
  obtain ⟨k, h⟩ := chk_s h
  obtain ⟨σ2, e1, h⟩ := wlet_s h
  have mσ2 : gM σ2 = gM σ1 ∧ gZ σ2 = gZ σ1 := by rw [e1]; exact ⟨rfl, rfl⟩
  obtain ⟨mσ2a, mσ2b⟩ := mσ2
  refine x_dputB (pc := 19) C (Or.inl pdJ5_22) rfl k2 k dJ5_init_d00df_19 (x_eq e1 ?_)
  refine x_goto (tgt := 38) (pc := 22) C dJ5_init_d00df_22 (by decide) ?_
  cases h
  exact x_wide (by omega) (by omega) (x_vret C hr dJ5_init_d00df_38)
def DJ5_init_d00df (l0 : Nat) (l1 : Int32) (σ : Sg) : Option (Unit × Sg) :=
  if (1 : Int32) = 0 then
    none
  else
    chk (ckn l1) <|
    chk (ck51 σ) <|
    wlet (mkD σ 6 l1.toNatClampNeg l1.toNatClampNeg) fun σ1 =>
    DJ5_init_d00df_14 l0 l0 (2000 + gM σ) σ1
theorem umJ5_init_d00df {l0 : Nat} {l1 : Int32} {σ : Sg} {r : Unit} {σ' : Sg} (h : DJ5_init_d00df l0 l1 σ = some (r, σ')) : Mo σ σ' := by
  unfold DJ5_init_d00df at h
  by_cases q : (1 : Int32) = 0
  · rw [if_pos q] at h
    cases h
  · rw [if_neg q] at h
    obtain ⟨kn, h⟩ := chk_s h
    obtain ⟨k5, h⟩ := chk_s h
    obtain ⟨σ1, e1, h⟩ := wlet_s h
    have mσ1 : gM σ1 = gM σ + 1 ∧ gZ σ1 = gZ σ + l1.toNatClampNeg := by rw [e1]; exact ⟨rfl, rfl⟩
    obtain ⟨mσ1a, mσ1b⟩ := mσ1
    obtain ⟨mz1, mz2⟩ := uJ5_init_d00df_14 h
    exact ⟨by omega, by omega⟩
theorem tqJ5_init_d00df {r : Unit} {σ' : Sg} (C : Cx E p s m args meth c RJ5 cJ5_init_d00df 2) (hr : meth.sig.returnType = none) (hn : meth.name = yJ5_init_d00df.name) (hR : RR R 2 (c0 + (gM σ' - gM σ0)) (z0 + (gZ σ' - gZ σ0))) {l0 : Nat} {l1 : Int32} {σ : Sg} (hm : Mo σ0 σ) (h : DJ5_init_d00df l0 l1 σ = some (r, σ')) : X E p l e R s m args below meth c (MQ below (QdX E none σ') args s (c0 + (gM σ' - gM σ0)) (z0 + (gZ σ' - gZ σ0)) (eF E)) 2 (c0 + (gM σ - gM σ0)) (z0 + (gZ σ - gZ σ0)) σ 0 [some (.ref (ad E l0)), some (.int l1)] [] := by
  obtain ⟨my1, my2⟩ := umJ5_init_d00df h
  unfold DJ5_init_d00df at h
  obtain ⟨hm1, hm2⟩ := hm
  obtain ⟨hR1, hR2, hR3, hR4⟩ := id hR
  refine x_aload_n (pc := 0) C dJ5_init_d00df_0 rfl rfl ?_
  refine x_objInit (pc := 1) C oJ5_3 oi1 oi2 ⟨(Nat.le_trans (Nat.le_of_ble_eq_true rfl) hR1), (Nat.le_trans (m := 40 * 2) (Nat.le_of_ble_eq_true rfl) hR2)⟩ dJ5_init_d00df_1 ?_
  refine x_getC (pc := 4) C gJ5_18 dJ5_init_d00df_4 ?_
  refine x_if_eq (pc := 7) (tgt := 25) C dJ5_init_d00df_7 (by decide) (fun q => ?_) (fun q => ?_)
  · rw [if_pos q] at h
    refine x_aload_n (pc := 25) C dJ5_init_d00df_25 rfl rfl ?_
    refine x_iload_n (pc := 26) C dJ5_init_d00df_26 rfl rfl ?_
    cases h
  · rw [if_neg q] at h
    refine x_aload_n (pc := 10) C dJ5_init_d00df_10 rfl rfl ?_
    refine x_iload_n (pc := 11) C dJ5_init_d00df_11 rfl rfl ?_
    obtain ⟨kn, h⟩ := chk_s h
    obtain ⟨k5, h⟩ := chk_s h
    obtain ⟨σ1, e1, h⟩ := wlet_s h
    have mσ1 : gM σ1 = gM σ + 1 ∧ gZ σ1 = gZ σ + l1.toNatClampNeg := by rw [e1]; exact ⟨rfl, rfl⟩
    obtain ⟨mσ1a, mσ1b⟩ := mσ1
    obtain ⟨mz1, mz2⟩ := uJ5_init_d00df_14 h
    refine x_dnewB (pc := 12) C aaB kn k5 ⟨by omega, by omega⟩ dJ5_init_d00df_12 (x_eq e1 ?_)
    exact x_sub (x_wide (by omega) (by omega) (tJ5_init_d00df_14 C hr hn hR ⟨by omega, by omega⟩ h)) (xLe_s (xLe_n xLe_0))
theorem tmJ5_init_d00df {r : Unit} {σ' : Sg} (C : Cx E p s m args meth c RJ5 cJ5_init_d00df 2) (hr : meth.sig.returnType = none) (hn : meth.name = yJ5_init_d00df.name) {l0 : Nat} {l1 : Int32} {σ : Sg} (h : DJ5_init_d00df l0 l1 σ = some (r, σ')) : X E p l e (rmA 2 (gM σ' - gM σ) (gZ σ' - gZ σ)) s m args below meth c (MQ below (QdX E none σ') args s (gM σ' - gM σ) (gZ σ' - gZ σ) (eF E)) 2 0 0 σ 0 [some (.ref (ad E l0)), some (.int l1)] [] := by
  have hR : RR (rmA 2 (gM σ' - gM σ) (gZ σ' - gZ σ)) 2 (0 + (gM σ' - gM σ)) (0 + (gZ σ' - gZ σ)) := ⟨Nat.le_refl _, Nat.le_refl _, Nat.le_of_eq (Nat.zero_add _), Nat.le_of_eq (Nat.zero_add _)⟩
  have hq := tqJ5_init_d00df (e := e) (l := l) (below := below) (c0 := 0) (z0 := 0) (σ0 := σ) C hr hn hR ⟨Nat.le_refl _, Nat.le_refl _⟩ h
  simp only [Nat.zero_add, Nat.sub_self] at hq
  exact hq
theorem mJ5_init_d00df (E : Ev) (l : Launch) {l0 : Nat} {l1 : Int32} {σ : Sg} {r : Unit} {σ' : Sg} (h : DJ5_init_d00df l0 l1 σ = some (r, σ')) : Mt E l yJ5_init_d00df cJ5_init_d00df 2 none 2 (gM σ' - gM σ) (gZ σ' - gZ σ) [.ref (ad E l0), .int l1] σ none σ' := by
  refine Mt.ofX (by decide) (Nat.le_of_ble_eq_true rfl) (L0 := [some (.ref (ad E l0)), some (.int l1)]) (xEntN_ok [.ref (ad E l0), .int l1] 2) (fun p e s m args below meth c C hr hn => ?_)
  refine (?_ : X E p l e (rmA 2 (gM σ' - gM σ) (gZ σ' - gZ σ)) s m args below meth c (MQ below (QdX E none σ') args s (gM σ' - gM σ) (gZ σ' - gZ σ) (eF E)) 2 0 0 σ 0 [some (.ref (ad E l0)), some (.int l1)] [])
  exact tmJ5_init_d00df C hr hn h
def DJ4_init_da8c8_6 (σ : Sg) : Option (Unit × Sg) :=
  some ((), σ)
theorem uJ4_init_da8c8_6 {r : Unit} {σ' : Sg} {σ : Sg} (h : DJ4_init_da8c8_6  σ = some (r, σ')) : Mo σ σ' := by
  unfold DJ4_init_da8c8_6 at h
  cases h
  exact ⟨by omega, by omega⟩
theorem tJ4_init_da8c8_6 {r : Unit} {σ' : Sg} (C : Cx E p s m args meth c RJ4 cJ4_init_da8c8 1) (hr : meth.sig.returnType = none) (hn : meth.name = yJ4_init_da8c8.name) (hR : RR R 3 (c0 + (gM σ' - gM σ0)) (z0 + (gZ σ' - gZ σ0))) {σ : Sg} (hm : Mo σ0 σ) (h : DJ4_init_da8c8_6  σ = some (r, σ')) : X E p l e R s m args below meth c (MQ below (QdX E none σ') args s (c0 + (gM σ' - gM σ0)) (z0 + (gZ σ' - gZ σ0)) (eF E)) 1 (c0 + (gM σ - gM σ0)) (z0 + (gZ σ - gZ σ0)) σ 6 [none] [] := by
  obtain ⟨my1, my2⟩ := uJ4_init_da8c8_6 h
  unfold DJ4_init_da8c8_6 at h
  obtain ⟨hm1, hm2⟩ := hm
  obtain ⟨hR1, hR2, hR3, hR4⟩ := id hR
  cases h
  exact x_wide (by omega) (by omega) (x_vret C hr dJ4_init_da8c8_6)
def DJ4_init_da8c8 (l0 : Nat) (σ : Sg) : Option (Unit × Sg) :=
  bnd (DJ5_init_d00df l0 (16 : Int32) σ) fun _ σ1 =>
  DJ4_init_da8c8_6 σ1
theorem umJ4_init_da8c8 {l0 : Nat} {σ : Sg} {r : Unit} {σ' : Sg} (h : DJ4_init_da8c8 l0 σ = some (r, σ')) : Mo σ σ' := by
  unfold DJ4_init_da8c8 at h
  obtain ⟨u0, σ1, k, h⟩ := bnd_s h
  obtain ⟨mσ1a, mσ1b⟩ := umJ5_init_d00df k
  obtain ⟨mz1, mz2⟩ := uJ4_init_da8c8_6 h
  exact ⟨by omega, by omega⟩
theorem tqJ4_init_da8c8 {r : Unit} {σ' : Sg} (C : Cx E p s m args meth c RJ4 cJ4_init_da8c8 1) (hr : meth.sig.returnType = none) (hn : meth.name = yJ4_init_da8c8.name) (hR : RR R 3 (c0 + (gM σ' - gM σ0)) (z0 + (gZ σ' - gZ σ0))) {l0 : Nat} {σ : Sg} (hm : Mo σ0 σ) (h : DJ4_init_da8c8 l0 σ = some (r, σ')) : X E p l e R s m args below meth c (MQ below (QdX E none σ') args s (c0 + (gM σ' - gM σ0)) (z0 + (gZ σ' - gZ σ0)) (eF E)) 1 (c0 + (gM σ - gM σ0)) (z0 + (gZ σ - gZ σ0)) σ 0 [some (.ref (ad E l0))] [] := by
  obtain ⟨my1, my2⟩ := umJ4_init_da8c8 h
  unfold DJ4_init_da8c8 at h
  obtain ⟨hm1, hm2⟩ := hm
  obtain ⟨hR1, hR2, hR3, hR4⟩ := id hR
  refine x_aload_n (pc := 0) C dJ4_init_da8c8_0 rfl rfl ?_
  refine x_bipush (v := 16) (pc := 1) C dJ4_init_da8c8_1 (by decide) ?_
  obtain ⟨u0, σ1, k, h⟩ := bnd_s h
  obtain ⟨mσ1a, mσ1b⟩ := umJ5_init_d00df k
  obtain ⟨mz1, mz2⟩ := uJ4_init_da8c8_6 h
  refine x_callI0 (pc := 3) C (mJ5_init_d00df E l k) cJ4_1 rfl nJ5_init_d00df rfl rfl (Nat.le_of_ble_eq_true rfl) ⟨(Nat.le_trans (Nat.le_of_ble_eq_true rfl) hR1), (Nat.le_trans (m := 40 * 3) (Nat.le_of_ble_eq_true rfl) hR2), by omega, by omega⟩ dJ4_init_da8c8_3 ?_
  exact x_sub (x_wide (by omega) (by omega) (tJ4_init_da8c8_6 C hr hn hR ⟨by omega, by omega⟩ h)) (xLe_n xLe_0)
theorem tmJ4_init_da8c8 {r : Unit} {σ' : Sg} (C : Cx E p s m args meth c RJ4 cJ4_init_da8c8 1) (hr : meth.sig.returnType = none) (hn : meth.name = yJ4_init_da8c8.name) {l0 : Nat} {σ : Sg} (h : DJ4_init_da8c8 l0 σ = some (r, σ')) : X E p l e (rmA 3 (gM σ' - gM σ) (gZ σ' - gZ σ)) s m args below meth c (MQ below (QdX E none σ') args s (gM σ' - gM σ) (gZ σ' - gZ σ) (eF E)) 1 0 0 σ 0 [some (.ref (ad E l0))] [] := by
  have hR : RR (rmA 3 (gM σ' - gM σ) (gZ σ' - gZ σ)) 3 (0 + (gM σ' - gM σ)) (0 + (gZ σ' - gZ σ)) := ⟨Nat.le_refl _, Nat.le_refl _, Nat.le_of_eq (Nat.zero_add _), Nat.le_of_eq (Nat.zero_add _)⟩
  have hq := tqJ4_init_da8c8 (e := e) (l := l) (below := below) (c0 := 0) (z0 := 0) (σ0 := σ) C hr hn hR ⟨Nat.le_refl _, Nat.le_refl _⟩ h
  simp only [Nat.zero_add, Nat.sub_self] at hq
  exact hq
theorem mJ4_init_da8c8 (E : Ev) (l : Launch) {l0 : Nat} {σ : Sg} {r : Unit} {σ' : Sg} (h : DJ4_init_da8c8 l0 σ = some (r, σ')) : Mt E l yJ4_init_da8c8 cJ4_init_da8c8 1 none 3 (gM σ' - gM σ) (gZ σ' - gZ σ) [.ref (ad E l0)] σ none σ' := by
  refine Mt.ofX (by decide) (Nat.le_of_ble_eq_true rfl) (L0 := [some (.ref (ad E l0))]) (xEntN_ok [.ref (ad E l0)] 1) (fun p e s m args below meth c C hr hn => ?_)
  refine (?_ : X E p l e (rmA 3 (gM σ' - gM σ) (gZ σ' - gZ σ)) s m args below meth c (MQ below (QdX E none σ') args s (gM σ' - gM σ) (gZ σ' - gZ σ) (eF E)) 1 0 0 σ 0 [some (.ref (ad E l0))] [])
  exact tmJ4_init_da8c8 C hr hn h
def DJ0_coder_7d493_14 (s0 : Int32) (σ : Sg) : Option (Int32 × Sg) :=
  chk (ckK s0) <|
  some (s0, σ)
theorem uJ0_coder_7d493_14 {r : Int32} {σ' : Sg} {s0 : Int32} {σ : Sg} (h : DJ0_coder_7d493_14 s0 σ = some (r, σ')) : Me σ σ' := by
  unfold DJ0_coder_7d493_14 at h
  obtain ⟨kz, h⟩ := chk_s h
  cases h
  exact ⟨by omega, by omega⟩
theorem tJ0_coder_7d493_14 {r : Int32} {σ' : Sg} (C : Cx E p s m args meth c RJ0 cJ0_coder_7d493 1) (hr : meth.sig.returnType = (some .byte)) {s0 : Int32} {σ : Sg} (h : DJ0_coder_7d493_14 s0 σ = some (r, σ')) : Y E p l e (rmA 1 0 0) s m args below meth c (some (.int r)) σ' 0 0 1 0 0 σ 14 [none] [.int s0] := by
  unfold DJ0_coder_7d493_14 at h
  obtain ⟨kz, h⟩ := chk_s h
  cases h
  exact x_zret C hr (ckK_s kz).1 dJ0_coder_7d493_14
def DJ0_coder_7d493 (l0 : Nat) (σ : Sg) : Option (Int32 × Sg) :=
  if (1 : Int32) = 0 then
    DJ0_coder_7d493_14 (1 : Int32) σ
  else
    chk (ckP σ 7 1 l0) <|
    DJ0_coder_7d493_14 (gI σ l0 1) σ
theorem umJ0_coder_7d493 {l0 : Nat} {σ : Sg} {r : Int32} {σ' : Sg} (h : DJ0_coder_7d493 l0 σ = some (r, σ')) : Me σ σ' := by
  unfold DJ0_coder_7d493 at h
  by_cases q : (1 : Int32) = 0
  · rw [if_pos q] at h
    obtain ⟨mz1, mz2⟩ := uJ0_coder_7d493_14 h
    exact ⟨by omega, by omega⟩
  · rw [if_neg q] at h
    obtain ⟨k, h⟩ := chk_s h
    obtain ⟨mz1, mz2⟩ := uJ0_coder_7d493_14 h
    exact ⟨by omega, by omega⟩
theorem mJ0_coder_7d493 (E : Ev) (l : Launch) {l0 : Nat} {σ : Sg} {r : Int32} {σ' : Sg} (h : DJ0_coder_7d493 l0 σ = some (r, σ')) : Mt E l yJ0_coder_7d493 cJ0_coder_7d493 1 (some .byte) 1 0 0 [.ref (ad E l0)] σ (some (.int r)) σ' := by
  refine Mt.ofX (by decide) (Nat.le_of_ble_eq_true rfl) (L0 := [some (.ref (ad E l0))]) (xEntN_ok [.ref (ad E l0)] 1) (fun p e s m args below meth c C hr hn => ?_)
  unfold DJ0_coder_7d493 at h
  refine x_getC (pc := 0) C gJ0_38 dJ0_coder_7d493_0 ?_
  refine x_if_eq (pc := 3) (tgt := 13) C dJ0_coder_7d493_3 (by decide) (fun q => ?_) (fun q => ?_)
  · rw [if_pos q] at h
    refine x_iconst (v := 1) (pc := 13) C dJ0_coder_7d493_13 (by decide) ?_
    exact x_sub (tJ0_coder_7d493_14 C hr h) (xLe_n xLe_0)
  · rw [if_neg q] at h
    refine x_aload_n (pc := 6) C dJ0_coder_7d493_6 rfl rfl ?_
    obtain ⟨k, h⟩ := chk_s h
    refine x_dgetI (pc := 7) C fdJ0_15 rfl k dJ0_coder_7d493_7 ?_
    refine x_goto (tgt := 14) (pc := 10) C dJ0_coder_7d493_10 (by decide) ?_
    exact x_sub (tJ0_coder_7d493_14 C hr h) (xLe_n xLe_0)
def DJ0_length_8abf5 (l0 : Nat) (σ : Sg) : Option (Int32 × Sg) :=
  chk (ckP σ 7 0 l0) <|
  chk (ckV (gR σ l0 0)) <|
  chk (ckQ σ (gR σ l0 0)) <|
  chk (ckP σ 7 0 l0) <|
  bnd (DJ0_coder_7d493 l0 σ) fun v1 σ2 =>
  some (((nI (gS σ (gR σ l0 0)).2) >>> (v1 &&& 31)), σ2)
theorem umJ0_length_8abf5 {l0 : Nat} {σ : Sg} {r : Int32} {σ' : Sg} (h : DJ0_length_8abf5 l0 σ = some (r, σ')) : Me σ σ' := by
  unfold DJ0_length_8abf5 at h
  obtain ⟨k, h⟩ := chk_s h
  obtain ⟨k, h⟩ := chk_s h
  obtain ⟨k, h⟩ := chk_s h
  obtain ⟨k, h⟩ := chk_s h
  obtain ⟨v1, σ2, k, h⟩ := bnd_s h
  obtain ⟨mσ2a, mσ2b⟩ := umJ0_coder_7d493 k
  cases h
  exact ⟨by omega, by omega⟩
theorem mJ0_length_8abf5 (E : Ev) (l : Launch) {l0 : Nat} {σ : Sg} {r : Int32} {σ' : Sg} (h : DJ0_length_8abf5 l0 σ = some (r, σ')) : Mt E l yJ0_length_8abf5 cJ0_length_8abf5 1 (some .int) 2 0 0 [.ref (ad E l0)] σ (some (.int r)) σ' := by
  refine Mt.ofX (by decide) (Nat.le_of_ble_eq_true rfl) (L0 := [some (.ref (ad E l0))]) (xEntN_ok [.ref (ad E l0)] 1) (fun p e s m args below meth c C hr hn => ?_)
  unfold DJ0_length_8abf5 at h
  refine x_aload_n (pc := 0) C dJ0_length_8abf5_0 rfl rfl ?_
  obtain ⟨k, h⟩ := chk_s h
  have k2 := k
  obtain ⟨k, h⟩ := chk_s h
  refine x_dgetR (pc := 1) C fdJ0_9 rfl k2 k dJ0_length_8abf5_1 ?_
  obtain ⟨k, h⟩ := chk_s h
  refine x_dalen (pc := 4) C k dJ0_length_8abf5_4 ?_
  refine x_aload_n (pc := 5) C dJ0_length_8abf5_5 rfl rfl ?_
  obtain ⟨k, h⟩ := chk_s h
  have k2 := k
  obtain ⟨v1, σ2, k, h⟩ := bnd_s h
  obtain ⟨mσ2a, mσ2b⟩ := umJ0_coder_7d493 k
  refine x_dcallV1 (pc := 6) C (mJ0_coder_7d493 E l k) cl7 k2 cJ0_335 nJ0_coder_7d493 sJ0_coder_7d493 rfl rfl (Nat.le_of_ble_eq_true rfl) ⟨Nat.le_of_ble_eq_true rfl, Nat.le_of_ble_eq_true rfl, Nat.le_of_ble_eq_true rfl, Nat.le_of_ble_eq_true rfl⟩ dJ0_length_8abf5_6 ?_
  refine x_ishr (pc := 9) C dJ0_length_8abf5_9 ?_
  cases h
  exact x_iret C hr dJ0_length_8abf5_10
def DJ8_newLength_cabcc_21 (l0 : Int32) (l1 : Int32) (σ : Sg) : Option (Int32 × Sg) :=
  none
theorem uJ8_newLength_cabcc_21 {r : Int32} {σ' : Sg} {l0 : Int32} {l1 : Int32} {σ : Sg} (h : DJ8_newLength_cabcc_21 l0 l1 σ = some (r, σ')) : Me σ σ' := by
  unfold DJ8_newLength_cabcc_21 at h
  cases h
theorem tJ8_newLength_cabcc_21 {r : Int32} {σ' : Sg} (C : Cx E p s m args meth c RJ8 cJ8_newLength_cabcc 4) (hr : meth.sig.returnType = (some .int)) {l0 : Int32} {l1 : Int32} {σ : Sg} (h : DJ8_newLength_cabcc_21 l0 l1 σ = some (r, σ')) : Y E p l e (rmA 2 0 0) s m args below meth c (some (.int r)) σ' 0 0 4 0 0 σ 21 [some (.int l0), some (.int l1), none, none] [] := by
  unfold DJ8_newLength_cabcc_21 at h
  refine x_iload_n (pc := 21) C dJ8_newLength_cabcc_21 rfl rfl ?_
  refine x_iload_n (pc := 22) C dJ8_newLength_cabcc_22 rfl rfl ?_
  cases h
def DJ8_newLength_cabcc (l0 : Int32) (l1 : Int32) (l2 : Int32) (σ : Sg) : Option (Int32 × Sg) :=
  if (l0 + (if l1 < l2 then l2 else l1)) ≤ (0 : Int32) then
    DJ8_newLength_cabcc_21 l0 l1 σ
  else
    if (2147483639 : Int32) < (l0 + (if l1 < l2 then l2 else l1)) then
      DJ8_newLength_cabcc_21 l0 l1 σ
    else
      some ((l0 + (if l1 < l2 then l2 else l1)), σ)
theorem umJ8_newLength_cabcc {l0 : Int32} {l1 : Int32} {l2 : Int32} {σ : Sg} {r : Int32} {σ' : Sg} (h : DJ8_newLength_cabcc l0 l1 l2 σ = some (r, σ')) : Me σ σ' := by
  unfold DJ8_newLength_cabcc at h
  by_cases q : (l0 + (if l1 < l2 then l2 else l1)) ≤ (0 : Int32)
  · rw [if_pos q] at h
    obtain ⟨mz1, mz2⟩ := uJ8_newLength_cabcc_21 h
    exact ⟨by omega, by omega⟩
  · rw [if_neg q] at h
    by_cases q : (2147483639 : Int32) < (l0 + (if l1 < l2 then l2 else l1))
    · rw [if_pos q] at h
      obtain ⟨mz1, mz2⟩ := uJ8_newLength_cabcc_21 h
      exact ⟨by omega, by omega⟩
    · rw [if_neg q] at h
      cases h
      exact ⟨by omega, by omega⟩
theorem mJ8_newLength_cabcc (E : Ev) (l : Launch) {l0 : Int32} {l1 : Int32} {l2 : Int32} {σ : Sg} {r : Int32} {σ' : Sg} (h : DJ8_newLength_cabcc l0 l1 l2 σ = some (r, σ')) : Mt E l yJ8_newLength_cabcc cJ8_newLength_cabcc 4 (some .int) 2 0 0 [.int l0, .int l1, .int l2] σ (some (.int r)) σ' := by
  refine Mt.ofX (by decide) (Nat.le_of_ble_eq_true rfl) (L0 := [some (.int l0), some (.int l1), some (.int l2), none]) (xEntN_ok [.int l0, .int l1, .int l2] 4) (fun p e s m args below meth c C hr hn => ?_)
  unfold DJ8_newLength_cabcc at h
  refine x_iload_n (pc := 0) C dJ8_newLength_cabcc_0 rfl rfl ?_
  refine x_iload_n (pc := 1) C dJ8_newLength_cabcc_1 rfl rfl ?_
  refine x_iload_n (pc := 2) C dJ8_newLength_cabcc_2 rfl rfl ?_
  refine x_mmax (pc := 3) C oJ8_194 mmmax1 mmi mmmax2 ⟨Nat.le_of_ble_eq_true rfl, Nat.le_of_ble_eq_true rfl, Nat.le_of_ble_eq_true rfl, Nat.le_of_ble_eq_true rfl⟩ dJ8_newLength_cabcc_3 ?_
  refine x_iadd (pc := 6) C dJ8_newLength_cabcc_6 ?_
  refine x_istore_n (M := [some _, some _, some _, some _]) (pc := 7) C dJ8_newLength_cabcc_7 rfl (by decide) rfl ?_
  refine x_iconst (v := 0) (pc := 8) C dJ8_newLength_cabcc_8 (by decide) ?_
  refine x_iload_n (pc := 9) C dJ8_newLength_cabcc_9 rfl rfl ?_
  refine x_icmp_ge (pc := 10) (tgt := 21) C dJ8_newLength_cabcc_10 (by decide) (fun q => ?_) (fun q => ?_)
  · rw [if_pos q] at h
    exact x_sub (tJ8_newLength_cabcc_21 C hr h) (xLe_s (xLe_s (xLe_n (xLe_n xLe_0))))
  · rw [if_neg q] at h
    refine x_iload_n (pc := 13) C dJ8_newLength_cabcc_13 rfl rfl ?_
    refine x_ldc (pc := 14) C kJ8_200 dJ8_newLength_cabcc_14 ?_
    refine x_icmp_gt (pc := 16) (tgt := 21) C dJ8_newLength_cabcc_16 (by decide) (fun q => ?_) (fun q => ?_)
    · rw [if_pos q] at h
      exact x_sub (tJ8_newLength_cabcc_21 C hr h) (xLe_s (xLe_s (xLe_n (xLe_n xLe_0))))
    · rw [if_neg q] at h
      refine x_iload_n (pc := 19) C dJ8_newLength_cabcc_19 rfl rfl ?_
      cases h
      exact x_iret C hr dJ8_newLength_cabcc_20
def DJ5_newCapacity_0f7a4 (l0 : Nat) (l1 : Int32) (σ : Sg) : Option (Int32 × Sg) :=
  chk (ckP σ 8 0 l0) <|
  chk (ckV (gR σ l0 0)) <|
  chk (ckQ σ (gR σ l0 0)) <|
  chk (ckP σ 8 1 l0) <|
  chk (ckP σ 8 1 l0) <|
  bnd (DJ8_newLength_cabcc (nI (gS σ (gR σ l0 0)).2) ((l1 <<< ((gI σ l0 1) &&& 31)) - (nI (gS σ (gR σ l0 0)).2)) ((nI (gS σ (gR σ l0 0)).2) + ((2 : Int32) <<< ((gI σ l0 1) &&& 31))) σ) fun v1 σ2 =>
  if v1 = (2147483647 : Int32) then
    none
  else
    chk (ckP σ2 8 1 l0) <|
    some ((v1 >>> ((gI σ2 l0 1) &&& 31)), σ2)
theorem umJ5_newCapacity_0f7a4 {l0 : Nat} {l1 : Int32} {σ : Sg} {r : Int32} {σ' : Sg} (h : DJ5_newCapacity_0f7a4 l0 l1 σ = some (r, σ')) : Me σ σ' := by
  unfold DJ5_newCapacity_0f7a4 at h
  obtain ⟨k, h⟩ := chk_s h
  obtain ⟨k, h⟩ := chk_s h
  obtain ⟨k, h⟩ := chk_s h
  obtain ⟨k, h⟩ := chk_s h
  obtain ⟨k, h⟩ := chk_s h
  obtain ⟨v1, σ2, k, h⟩ := bnd_s h
  obtain ⟨mσ2a, mσ2b⟩ := umJ8_newLength_cabcc k
  by_cases q : v1 = (2147483647 : Int32)
  · rw [if_pos q] at h
    cases h
  · rw [if_neg q] at h
    obtain ⟨k, h⟩ := chk_s h
    cases h
    exact ⟨by omega, by omega⟩
theorem mJ5_newCapacity_0f7a4 (E : Ev) (l : Launch) {l0 : Nat} {l1 : Int32} {σ : Sg} {r : Int32} {σ' : Sg} (h : DJ5_newCapacity_0f7a4 l0 l1 σ = some (r, σ')) : Mt E l yJ5_newCapacity_0f7a4 cJ5_newCapacity_0f7a4 6 (some .int) 3 0 0 [.ref (ad E l0), .int l1] σ (some (.int r)) σ' := by
  refine Mt.ofX (by decide) (Nat.le_of_ble_eq_true rfl) (L0 := [some (.ref (ad E l0)), some (.int l1), none, none, none, none]) (xEntN_ok [.ref (ad E l0), .int l1] 6) (fun p e s m args below meth c C hr hn => ?_)
  unfold DJ5_newCapacity_0f7a4 at h
  refine x_aload_n (pc := 0) C dJ5_newCapacity_0f7a4_0 rfl rfl ?_
  obtain ⟨k, h⟩ := chk_s h
  have k2 := k
  obtain ⟨k, h⟩ := chk_s h
  refine x_dgetR (pc := 1) C fdJ5_15 rfl k2 k dJ5_newCapacity_0f7a4_1 ?_
  obtain ⟨k, h⟩ := chk_s h
  refine x_dalen (pc := 4) C k dJ5_newCapacity_0f7a4_4 ?_
  refine x_istore_n (M := [some _, some _, some _, none, none, none]) (pc := 5) C dJ5_newCapacity_0f7a4_5 rfl (by decide) rfl ?_
  refine x_iload_n (pc := 6) C dJ5_newCapacity_0f7a4_6 rfl rfl ?_
  refine x_aload_n (pc := 7) C dJ5_newCapacity_0f7a4_7 rfl rfl ?_
  obtain ⟨k, h⟩ := chk_s h
  refine x_dgetI (pc := 8) C fdJ5_22 rfl k dJ5_newCapacity_0f7a4_8 ?_
  refine x_ishl (pc := 11) C dJ5_newCapacity_0f7a4_11 ?_
  refine x_istore_n (M := [some _, some _, some _, some _, none, none]) (pc := 12) C dJ5_newCapacity_0f7a4_12 rfl (by decide) rfl ?_
  refine x_iload_n (pc := 13) C dJ5_newCapacity_0f7a4_13 rfl rfl ?_
  refine x_iload_n (pc := 14) C dJ5_newCapacity_0f7a4_14 rfl rfl ?_
  refine x_isub (pc := 15) C dJ5_newCapacity_0f7a4_15 ?_
  refine x_istore (M := [some _, some _, some _, some _, some _, none]) (pc := 16) C dJ5_newCapacity_0f7a4_16 (by decide) rfl ?_
  refine x_iload_n (pc := 18) C dJ5_newCapacity_0f7a4_18 rfl rfl ?_
  refine x_iload (pc := 19) C dJ5_newCapacity_0f7a4_19 rfl ?_
  refine x_iload_n (pc := 21) C dJ5_newCapacity_0f7a4_21 rfl rfl ?_
  refine x_iconst (v := 2) (pc := 22) C dJ5_newCapacity_0f7a4_22 (by decide) ?_
  refine x_aload_n (pc := 23) C dJ5_newCapacity_0f7a4_23 rfl rfl ?_
  obtain ⟨k, h⟩ := chk_s h
  refine x_dgetI (pc := 24) C fdJ5_22 rfl k dJ5_newCapacity_0f7a4_24 ?_
  refine x_ishl (pc := 27) C dJ5_newCapacity_0f7a4_27 ?_
  refine x_iadd (pc := 28) C dJ5_newCapacity_0f7a4_28 ?_
  obtain ⟨v1, σ2, k, h⟩ := bnd_s h
  obtain ⟨mσ2a, mσ2b⟩ := umJ8_newLength_cabcc k
  refine x_callS1 (pc := 29) C (mJ8_newLength_cabcc E l k) cJ5_114 zJ8_newLength_cabcc rfl rfl (Nat.le_of_ble_eq_true rfl) ⟨Nat.le_of_ble_eq_true rfl, Nat.le_of_ble_eq_true rfl, Nat.le_of_ble_eq_true rfl, Nat.le_of_ble_eq_true rfl⟩ dJ5_newCapacity_0f7a4_29 ?_
  refine x_istore (M := [some _, some _, some _, some _, some _, some _]) (pc := 32) C dJ5_newCapacity_0f7a4_32 (by decide) rfl ?_
  refine x_iload (pc := 34) C dJ5_newCapacity_0f7a4_34 rfl ?_
  refine x_ldc (pc := 36) C kJ5_39 dJ5_newCapacity_0f7a4_36 ?_
  refine x_icmp_ne (pc := 38) (tgt := 51) C dJ5_newCapacity_0f7a4_38 (by decide) (fun q => ?_) (fun q => ?_)
  · rw [if_pos q] at h
    cases h
  · rw [if_neg q] at h
    refine x_iload (pc := 51) C dJ5_newCapacity_0f7a4_51 rfl ?_
    refine x_aload_n (pc := 53) C dJ5_newCapacity_0f7a4_53 rfl rfl ?_
    obtain ⟨k, h⟩ := chk_s h
    refine x_dgetI (pc := 54) C fdJ5_22 rfl k dJ5_newCapacity_0f7a4_54 ?_
    refine x_ishr (pc := 57) C dJ5_newCapacity_0f7a4_57 ?_
    cases h
    exact x_iret C hr dJ5_newCapacity_0f7a4_58
def DJ7_copyOf_9075b_10 (s0 : Nat) (σ : Sg) : Option (Nat × Sg) :=
  chk (ckB6 σ s0) <|
  some (s0, σ)
theorem uJ7_copyOf_9075b_10 {r : Nat} {σ' : Sg} {s0 : Nat} {σ : Sg} (h : DJ7_copyOf_9075b_10 s0 σ = some (r, σ')) : Mo σ σ' := by
  unfold DJ7_copyOf_9075b_10 at h
  obtain ⟨k, h⟩ := chk_s h
  cases h
  exact ⟨by omega, by omega⟩
theorem tJ7_copyOf_9075b_10 {r : Nat} {σ' : Sg} (C : Cx E p s m args meth c RJ7 cJ7_copyOf_9075b 3) (hr : meth.sig.returnType = (some (.array .byte))) (hR : RR R 2 (c0 + (gM σ' - gM σ0)) (z0 + (gZ σ' - gZ σ0))) {s0 : Nat} {σ : Sg} (hm : Mo σ0 σ) (h : DJ7_copyOf_9075b_10 s0 σ = some (r, σ')) : X E p l e R s m args below meth c (MQ below (QdX E (some (.ref (ad E r))) σ') args s (c0 + (gM σ' - gM σ0)) (z0 + (gZ σ' - gZ σ0)) (eF E)) 3 (c0 + (gM σ - gM σ0)) (z0 + (gZ σ - gZ σ0)) σ 10 [none, none, none] [.ref (ad E s0)] := by
  obtain ⟨my1, my2⟩ := uJ7_copyOf_9075b_10 h
  unfold DJ7_copyOf_9075b_10 at h
  obtain ⟨hm1, hm2⟩ := hm
  obtain ⟨hR1, hR2, hR3, hR4⟩ := id hR
  obtain ⟨k, h⟩ := chk_s h
  refine x_dcast (pc := 10) C wcJ7_311 k dJ7_copyOf_9075b_10 ?_
  cases h
  exact x_wide (by omega) (by omega) (x_aret C hr (Or.inr ⟨_, rfl⟩) dJ7_copyOf_9075b_13)
def DJ7_copyOf_9075b_17 (l0 : Nat) (l1 : Int32) (s0 : Nat) (σ : Sg) : Option (Nat × Sg) :=
  chk (ckQ σ l0) <|
  chk (ckY σ l0 (0 : Int32) s0 (0 : Int32) (imin (nI (gS σ l0).2) l1)) <|
  wlet (cpB σ l0 (0 : Int32).toNatClampNeg s0 (0 : Int32).toNatClampNeg (imin (nI (gS σ l0).2) l1).toNatClampNeg) fun σ1 =>
  some (s0, σ1)
theorem uJ7_copyOf_9075b_17 {r : Nat} {σ' : Sg} {l0 : Nat} {l1 : Int32} {s0 : Nat} {σ : Sg} (h : DJ7_copyOf_9075b_17 l0 l1 s0 σ = some (r, σ')) : Mo σ σ' := by
  unfold DJ7_copyOf_9075b_17 at h
  obtain ⟨k, h⟩ := chk_s h
  obtain ⟨k, h⟩ := chk_s h
  obtain ⟨σ1, e1, h⟩ := wlet_s h
  have mσ1 : gM σ1 = gM σ ∧ gZ σ1 = gZ σ := by rw [e1]; exact ⟨rfl, rfl⟩
  obtain ⟨mσ1a, mσ1b⟩ := mσ1
  cases h
  exact ⟨by omega, by omega⟩
theorem tJ7_copyOf_9075b_17 {r : Nat} {σ' : Sg} (C : Cx E p s m args meth c RJ7 cJ7_copyOf_9075b 3) (hr : meth.sig.returnType = (some (.array .byte))) (hR : RR R 2 (c0 + (gM σ' - gM σ0)) (z0 + (gZ σ' - gZ σ0))) {l0 : Nat} {l1 : Int32} {s0 : Nat} {σ : Sg} (hm : Mo σ0 σ) (h : DJ7_copyOf_9075b_17 l0 l1 s0 σ = some (r, σ')) : X E p l e R s m args below meth c (MQ below (QdX E (some (.ref (ad E r))) σ') args s (c0 + (gM σ' - gM σ0)) (z0 + (gZ σ' - gZ σ0)) (eF E)) 3 (c0 + (gM σ - gM σ0)) (z0 + (gZ σ - gZ σ0)) σ 17 [some (.ref (ad E l0)), some (.int l1), none] [.ref (ad E s0)] := by
  obtain ⟨my1, my2⟩ := uJ7_copyOf_9075b_17 h
  unfold DJ7_copyOf_9075b_17 at h
  obtain ⟨hm1, hm2⟩ := hm
  obtain ⟨hR1, hR2, hR3, hR4⟩ := id hR
  refine x_astore_n (M := [some _, some _, some _]) (pc := 17) C dJ7_copyOf_9075b_17 rfl (by decide) rfl ?_
  refine x_aload_n (pc := 18) C dJ7_copyOf_9075b_18 rfl rfl ?_
  refine x_iconst (v := 0) (pc := 19) C dJ7_copyOf_9075b_19 (by decide) ?_
  refine x_aload_n (pc := 20) C dJ7_copyOf_9075b_20 rfl rfl ?_
  refine x_iconst (v := 0) (pc := 21) C dJ7_copyOf_9075b_21 (by decide) ?_
  refine x_aload_n (pc := 22) C dJ7_copyOf_9075b_22 rfl rfl ?_
  obtain ⟨k, h⟩ := chk_s h
  refine x_dalen (pc := 23) C k dJ7_copyOf_9075b_23 ?_
  refine x_iload_n (pc := 24) C dJ7_copyOf_9075b_24 rfl rfl ?_
  refine x_mmin (pc := 25) C oJ7_304 mmmin1 mmi mmmin2 ⟨(Nat.le_trans (Nat.le_of_ble_eq_true rfl) hR1), (Nat.le_trans (m := 40 * 2) (Nat.le_of_ble_eq_true rfl) hR2), by omega, by omega⟩ dJ7_copyOf_9075b_25 ?_
  obtain ⟨k, h⟩ := chk_s h
  obtain ⟨σ1, e1, h⟩ := wlet_s h
  have mσ1 : gM σ1 = gM σ ∧ gZ σ1 = gZ σ := by rw [e1]; exact ⟨rfl, rfl⟩
  obtain ⟨mσ1a, mσ1b⟩ := mσ1
  refine x_acopy (pc := 28) C ayJ7_150 ay1 ay2 ay3 k ⟨(Nat.le_trans (Nat.le_of_ble_eq_true rfl) hR1), (Nat.le_trans (m := 40 * 2) (Nat.le_of_ble_eq_true rfl) hR2)⟩ dJ7_copyOf_9075b_28 (x_eq e1 ?_)
  refine x_aload_n (pc := 31) C dJ7_copyOf_9075b_31 rfl rfl ?_
  cases h
  exact x_wide (by omega) (by omega) (x_aret C hr (Or.inr ⟨_, rfl⟩) dJ7_copyOf_9075b_32)
def DJ7_copyOf_9075b (l0 : Nat) (l1 : Int32) (σ : Sg) : Option (Nat × Sg) :=
  chk (ckQ σ l0) <|
  if l1 = (nI (gS σ l0).2) then
    chk (ckB6 σ l0) <|
    chk (ck51 σ) <|
    wlet (clD σ l0) fun σ1 =>
    DJ7_copyOf_9075b_10 (2000 + gM σ) σ1
  else
    chk (ckn l1) <|
    chk (ck51 σ) <|
    wlet (mkD σ 6 l1.toNatClampNeg l1.toNatClampNeg) fun σ2 =>
    DJ7_copyOf_9075b_17 l0 l1 (2000 + gM σ) σ2
theorem umJ7_copyOf_9075b {l0 : Nat} {l1 : Int32} {σ : Sg} {r : Nat} {σ' : Sg} (h : DJ7_copyOf_9075b l0 l1 σ = some (r, σ')) : Mo σ σ' := by
  unfold DJ7_copyOf_9075b at h
  obtain ⟨k, h⟩ := chk_s h
  by_cases q : l1 = (nI (gS σ l0).2)
  · rw [if_pos q] at h
    obtain ⟨kb, h⟩ := chk_s h
    obtain ⟨k5, h⟩ := chk_s h
    obtain ⟨σ1, e1, h⟩ := wlet_s h
    have mσ1 : gM σ1 = gM σ + 1 ∧ gZ σ1 = gZ σ + (gS σ l0).2 := by rw [e1]; exact ⟨rfl, rfl⟩
    obtain ⟨mσ1a, mσ1b⟩ := mσ1
    obtain ⟨mz1, mz2⟩ := uJ7_copyOf_9075b_10 h
    exact ⟨by omega, by omega⟩
  · rw [if_neg q] at h
    obtain ⟨kn, h⟩ := chk_s h
    obtain ⟨k5, h⟩ := chk_s h
    obtain ⟨σ2, e1, h⟩ := wlet_s h
    have mσ2 : gM σ2 = gM σ + 1 ∧ gZ σ2 = gZ σ + l1.toNatClampNeg := by rw [e1]; exact ⟨rfl, rfl⟩
    obtain ⟨mσ2a, mσ2b⟩ := mσ2
    obtain ⟨mz1, mz2⟩ := uJ7_copyOf_9075b_17 h
    exact ⟨by omega, by omega⟩
theorem tqJ7_copyOf_9075b {r : Nat} {σ' : Sg} (C : Cx E p s m args meth c RJ7 cJ7_copyOf_9075b 3) (hr : meth.sig.returnType = (some (.array .byte))) (hR : RR R 2 (c0 + (gM σ' - gM σ0)) (z0 + (gZ σ' - gZ σ0))) {l0 : Nat} {l1 : Int32} {σ : Sg} (hm : Mo σ0 σ) (h : DJ7_copyOf_9075b l0 l1 σ = some (r, σ')) : X E p l e R s m args below meth c (MQ below (QdX E (some (.ref (ad E r))) σ') args s (c0 + (gM σ' - gM σ0)) (z0 + (gZ σ' - gZ σ0)) (eF E)) 3 (c0 + (gM σ - gM σ0)) (z0 + (gZ σ - gZ σ0)) σ 0 [some (.ref (ad E l0)), some (.int l1), none] [] := by
  obtain ⟨my1, my2⟩ := umJ7_copyOf_9075b h
  unfold DJ7_copyOf_9075b at h
  obtain ⟨hm1, hm2⟩ := hm
  obtain ⟨hR1, hR2, hR3, hR4⟩ := id hR
  refine x_iload_n (pc := 0) C dJ7_copyOf_9075b_0 rfl rfl ?_
  refine x_aload_n (pc := 1) C dJ7_copyOf_9075b_1 rfl rfl ?_
  obtain ⟨k, h⟩ := chk_s h
  refine x_dalen (pc := 2) C k dJ7_copyOf_9075b_2 ?_
  refine x_icmp_ne (pc := 3) (tgt := 14) C dJ7_copyOf_9075b_3 (by decide) (fun q => ?_) (fun q => ?_)
  · rw [if_pos q] at h
    refine x_aload_n (pc := 6) C dJ7_copyOf_9075b_6 rfl rfl ?_
    obtain ⟨kb, h⟩ := chk_s h
    obtain ⟨k5, h⟩ := chk_s h
    obtain ⟨σ1, e1, h⟩ := wlet_s h
    have mσ1 : gM σ1 = gM σ + 1 ∧ gZ σ1 = gZ σ + (gS σ l0).2 := by rw [e1]; exact ⟨rfl, rfl⟩
    obtain ⟨mσ1a, mσ1b⟩ := mσ1
    obtain ⟨mz1, mz2⟩ := uJ7_copyOf_9075b_10 h
    refine x_dclone (pc := 7) C cnJ7_310 cn1 cn2 cn3 cn4 cn5 kb k5 ⟨(Nat.le_trans (Nat.le_of_ble_eq_true rfl) hR1), (Nat.le_trans (m := 40 * 2) (Nat.le_of_ble_eq_true rfl) hR2)⟩ ⟨by omega, by omega⟩ dJ7_copyOf_9075b_7 (x_eq e1 ?_)
    exact x_sub (x_wide (by omega) (by omega) (tJ7_copyOf_9075b_10 C hr hR ⟨by omega, by omega⟩ h)) (xLe_n (xLe_n (xLe_n xLe_0)))
  · rw [if_neg q] at h
    refine x_iload_n (pc := 14) C dJ7_copyOf_9075b_14 rfl rfl ?_
    obtain ⟨kn, h⟩ := chk_s h
    obtain ⟨k5, h⟩ := chk_s h
    obtain ⟨σ2, e1, h⟩ := wlet_s h
    have mσ2 : gM σ2 = gM σ + 1 ∧ gZ σ2 = gZ σ + l1.toNatClampNeg := by rw [e1]; exact ⟨rfl, rfl⟩
    obtain ⟨mσ2a, mσ2b⟩ := mσ2
    obtain ⟨mz1, mz2⟩ := uJ7_copyOf_9075b_17 h
    refine x_dnewB (pc := 15) C aaB kn k5 ⟨by omega, by omega⟩ dJ7_copyOf_9075b_15 (x_eq e1 ?_)
    exact x_sub (x_wide (by omega) (by omega) (tJ7_copyOf_9075b_17 C hr hR ⟨by omega, by omega⟩ h)) (xLe_s (xLe_s (xLe_n xLe_0)))
theorem tmJ7_copyOf_9075b {r : Nat} {σ' : Sg} (C : Cx E p s m args meth c RJ7 cJ7_copyOf_9075b 3) (hr : meth.sig.returnType = (some (.array .byte))) {l0 : Nat} {l1 : Int32} {σ : Sg} (h : DJ7_copyOf_9075b l0 l1 σ = some (r, σ')) : X E p l e (rmA 2 (gM σ' - gM σ) (gZ σ' - gZ σ)) s m args below meth c (MQ below (QdX E (some (.ref (ad E r))) σ') args s (gM σ' - gM σ) (gZ σ' - gZ σ) (eF E)) 3 0 0 σ 0 [some (.ref (ad E l0)), some (.int l1), none] [] := by
  have hR : RR (rmA 2 (gM σ' - gM σ) (gZ σ' - gZ σ)) 2 (0 + (gM σ' - gM σ)) (0 + (gZ σ' - gZ σ)) := ⟨Nat.le_refl _, Nat.le_refl _, Nat.le_of_eq (Nat.zero_add _), Nat.le_of_eq (Nat.zero_add _)⟩
  have hq := tqJ7_copyOf_9075b (e := e) (l := l) (below := below) (c0 := 0) (z0 := 0) (σ0 := σ) C hr hR ⟨Nat.le_refl _, Nat.le_refl _⟩ h
  simp only [Nat.zero_add, Nat.sub_self] at hq
  exact hq
theorem mJ7_copyOf_9075b (E : Ev) (l : Launch) {l0 : Nat} {l1 : Int32} {σ : Sg} {r : Nat} {σ' : Sg} (h : DJ7_copyOf_9075b l0 l1 σ = some (r, σ')) : Mt E l yJ7_copyOf_9075b cJ7_copyOf_9075b 3 (some (.array .byte)) 2 (gM σ' - gM σ) (gZ σ' - gZ σ) [.ref (ad E l0), .int l1] σ (some (.ref (ad E r))) σ' := by
  refine Mt.ofX (by decide) (Nat.le_of_ble_eq_true rfl) (L0 := [some (.ref (ad E l0)), some (.int l1), none]) (xEntN_ok [.ref (ad E l0), .int l1] 3) (fun p e s m args below meth c C hr hn => ?_)
  refine (?_ : X E p l e (rmA 2 (gM σ' - gM σ) (gZ σ' - gZ σ)) s m args below meth c (MQ below (QdX E (some (.ref (ad E r))) σ') args s (gM σ' - gM σ) (gZ σ' - gZ σ) (eF E)) 3 0 0 σ 0 [some (.ref (ad E l0)), some (.int l1), none] [])
  exact tmJ7_copyOf_9075b C hr h
def DJ5_ensureCapacityInternal_d00df_38 (σ : Sg) : Option (Unit × Sg) :=
  some ((), σ)
theorem uJ5_ensureCapacityInternal_d00df_38 {r : Unit} {σ' : Sg} {σ : Sg} (h : DJ5_ensureCapacityInternal_d00df_38  σ = some (r, σ')) : Mo σ σ' := by
  unfold DJ5_ensureCapacityInternal_d00df_38 at h
  cases h
  exact ⟨by omega, by omega⟩
theorem tJ5_ensureCapacityInternal_d00df_38 {r : Unit} {σ' : Sg} (C : Cx E p s m args meth c RJ5 cJ5_ensureCapacityInternal_d00df 3) (hr : meth.sig.returnType = none) (hR : RR R 4 (c0 + (gM σ' - gM σ0)) (z0 + (gZ σ' - gZ σ0))) {σ : Sg} (hm : Mo σ0 σ) (h : DJ5_ensureCapacityInternal_d00df_38  σ = some (r, σ')) : X E p l e R s m args below meth c (MQ below (QdX E none σ') args s (c0 + (gM σ' - gM σ0)) (z0 + (gZ σ' - gZ σ0)) (eF E)) 3 (c0 + (gM σ - gM σ0)) (z0 + (gZ σ - gZ σ0)) σ 38 [none, none, none] [] := by
  obtain ⟨my1, my2⟩ := uJ5_ensureCapacityInternal_d00df_38 h
  unfold DJ5_ensureCapacityInternal_d00df_38 at h
  obtain ⟨hm1, hm2⟩ := hm
  obtain ⟨hR1, hR2, hR3, hR4⟩ := id hR
  cases h
  exact x_wide (by omega) (by omega) (x_vret C hr dJ5_ensureCapacityInternal_d00df_38)
def DJ5_ensureCapacityInternal_d00df_35 (s0 : Nat) (s1 : Nat) (σ : Sg) : Option (Unit × Sg) :=
  chk (ckH σ 8 s0) <|
  chk (ckV s1) <|
  wlet (pR σ s0 0 s1) fun σ1 =>
  DJ5_ensureCapacityInternal_d00df_38 σ1
theorem uJ5_ensureCapacityInternal_d00df_35 {r : Unit} {σ' : Sg} {s0 : Nat} {s1 : Nat} {σ : Sg} (h : DJ5_ensureCapacityInternal_d00df_35 s0 s1 σ = some (r, σ')) : Mo σ σ' := by
  unfold DJ5_ensureCapacityInternal_d00df_35 at h
  obtain ⟨k, h⟩ := chk_s h
  obtain ⟨k, h⟩ := chk_s h
  obtain ⟨σ1, e1, h⟩ := wlet_s h
  have mσ1 : gM σ1 = gM σ ∧ gZ σ1 = gZ σ := by rw [e1]; exact ⟨rfl, rfl⟩
  obtain ⟨mσ1a, mσ1b⟩ := mσ1
  obtain ⟨mz1, mz2⟩ := uJ5_ensureCapacityInternal_d00df_38 h
  exact ⟨by omega, by omega⟩
theorem tJ5_ensureCapacityInternal_d00df_35 {r : Unit} {σ' : Sg} (C : Cx E p s m args meth c RJ5 cJ5_ensureCapacityInternal_d00df 3) (hr : meth.sig.returnType = none) (hR : RR R 4 (c0 + (gM σ' - gM σ0)) (z0 + (gZ σ' - gZ σ0))) {s0 : Nat} {s1 : Nat} {σ : Sg} (hm : Mo σ0 σ) (h : DJ5_ensureCapacityInternal_d00df_35 s0 s1 σ = some (r, σ')) : X E p l e R s m args below meth c (MQ below (QdX E none σ') args s (c0 + (gM σ' - gM σ0)) (z0 + (gZ σ' - gZ σ0)) (eF E)) 3 (c0 + (gM σ - gM σ0)) (z0 + (gZ σ - gZ σ0)) σ 35 [none, none, none] [.ref (ad E s1), .ref (ad E s0)] := by
  obtain ⟨my1, my2⟩ := uJ5_ensureCapacityInternal_d00df_35 h
  unfold DJ5_ensureCapacityInternal_d00df_35 at h
  obtain ⟨hm1, hm2⟩ := hm
  obtain ⟨hR1, hR2, hR3, hR4⟩ := id hR
  obtain ⟨k, h⟩ := chk_s h
  have k2 := k
  obtain ⟨k, h⟩ := chk_s h
  obtain ⟨σ1, e1, h⟩ := wlet_s h
  have mσ1 : gM σ1 = gM σ ∧ gZ σ1 = gZ σ := by rw [e1]; exact ⟨rfl, rfl⟩
  obtain ⟨mσ1a, mσ1b⟩ := mσ1
  refine x_dputR (pc := 35) C (Or.inl pdJ5_15) (Or.inr ⟨_, rfl⟩) k2 k dJ5_ensureCapacityInternal_d00df_35 (x_eq e1 ?_)
  exact x_sub (x_wide (by omega) (by omega) (tJ5_ensureCapacityInternal_d00df_38 C hr hR ⟨by omega, by omega⟩ h)) (xLe_n (xLe_n (xLe_n xLe_0)))
def DJ5_ensureCapacityInternal_d00df (l0 : Nat) (l1 : Int32) (σ : Sg) : Option (Unit × Sg) :=
  chk (ckP σ 8 0 l0) <|
  chk (ckV (gR σ l0 0)) <|
  chk (ckQ σ (gR σ l0 0)) <|
  chk (ckP σ 8 1 l0) <|
  if (l1 - ((nI (gS σ (gR σ l0 0)).2) >>> ((gI σ l0 1) &&& 31))) ≤ 0 then
    DJ5_ensureCapacityInternal_d00df_38 σ
  else
    chk (ckP σ 8 0 l0) <|
    chk (ckV (gR σ l0 0)) <|
    chk (ckP σ 8 0 l0) <|
    bnd (DJ5_newCapacity_0f7a4 l0 l1 σ) fun v1 σ2 =>
    chk (ckP σ2 8 1 l0) <|
    bnd (DJ7_copyOf_9075b (gR σ l0 0) (v1 <<< ((gI σ2 l0 1) &&& 31)) σ2) fun v3 σ4 =>
    DJ5_ensureCapacityInternal_d00df_35 l0 v3 σ4
theorem umJ5_ensureCapacityInternal_d00df {l0 : Nat} {l1 : Int32} {σ : Sg} {r : Unit} {σ' : Sg} (h : DJ5_ensureCapacityInternal_d00df l0 l1 σ = some (r, σ')) : Mo σ σ' := by
  unfold DJ5_ensureCapacityInternal_d00df at h
  obtain ⟨k, h⟩ := chk_s h
  obtain ⟨k, h⟩ := chk_s h
  obtain ⟨k, h⟩ := chk_s h
  obtain ⟨k, h⟩ := chk_s h
  by_cases q : (l1 - ((nI (gS σ (gR σ l0 0)).2) >>> ((gI σ l0 1) &&& 31))) ≤ 0
  · rw [if_pos q] at h
    obtain ⟨mz1, mz2⟩ := uJ5_ensureCapacityInternal_d00df_38 h
    exact ⟨by omega, by omega⟩
  · rw [if_neg q] at h
    obtain ⟨k, h⟩ := chk_s h
    obtain ⟨k, h⟩ := chk_s h
    obtain ⟨k, h⟩ := chk_s h
    obtain ⟨v1, σ2, k, h⟩ := bnd_s h
    obtain ⟨mσ2a, mσ2b⟩ := umJ5_newCapacity_0f7a4 k
    obtain ⟨k, h⟩ := chk_s h
    obtain ⟨v3, σ4, k, h⟩ := bnd_s h
    obtain ⟨mσ4a, mσ4b⟩ := umJ7_copyOf_9075b k
    obtain ⟨mz1, mz2⟩ := uJ5_ensureCapacityInternal_d00df_35 h
    exact ⟨by omega, by omega⟩
theorem tqJ5_ensureCapacityInternal_d00df {r : Unit} {σ' : Sg} (C : Cx E p s m args meth c RJ5 cJ5_ensureCapacityInternal_d00df 3) (hr : meth.sig.returnType = none) (hR : RR R 4 (c0 + (gM σ' - gM σ0)) (z0 + (gZ σ' - gZ σ0))) {l0 : Nat} {l1 : Int32} {σ : Sg} (hm : Mo σ0 σ) (h : DJ5_ensureCapacityInternal_d00df l0 l1 σ = some (r, σ')) : X E p l e R s m args below meth c (MQ below (QdX E none σ') args s (c0 + (gM σ' - gM σ0)) (z0 + (gZ σ' - gZ σ0)) (eF E)) 3 (c0 + (gM σ - gM σ0)) (z0 + (gZ σ - gZ σ0)) σ 0 [some (.ref (ad E l0)), some (.int l1), none] [] := by
  obtain ⟨my1, my2⟩ := umJ5_ensureCapacityInternal_d00df h
  unfold DJ5_ensureCapacityInternal_d00df at h
  obtain ⟨hm1, hm2⟩ := hm
  obtain ⟨hR1, hR2, hR3, hR4⟩ := id hR
  refine x_aload_n (pc := 0) C dJ5_ensureCapacityInternal_d00df_0 rfl rfl ?_
  obtain ⟨k, h⟩ := chk_s h
  have k2 := k
  obtain ⟨k, h⟩ := chk_s h
  refine x_dgetR (pc := 1) C fdJ5_15 rfl k2 k dJ5_ensureCapacityInternal_d00df_1 ?_
  obtain ⟨k, h⟩ := chk_s h
  refine x_dalen (pc := 4) C k dJ5_ensureCapacityInternal_d00df_4 ?_
  refine x_aload_n (pc := 5) C dJ5_ensureCapacityInternal_d00df_5 rfl rfl ?_
  obtain ⟨k, h⟩ := chk_s h
  refine x_dgetI (pc := 6) C fdJ5_22 rfl k dJ5_ensureCapacityInternal_d00df_6 ?_
  refine x_ishr (pc := 9) C dJ5_ensureCapacityInternal_d00df_9 ?_
  refine x_istore_n (M := [some _, some _, some _]) (pc := 10) C dJ5_ensureCapacityInternal_d00df_10 rfl (by decide) rfl ?_
  refine x_iload_n (pc := 11) C dJ5_ensureCapacityInternal_d00df_11 rfl rfl ?_
  refine x_iload_n (pc := 12) C dJ5_ensureCapacityInternal_d00df_12 rfl rfl ?_
  refine x_isub (pc := 13) C dJ5_ensureCapacityInternal_d00df_13 ?_
  refine x_if_le (pc := 14) (tgt := 38) C dJ5_ensureCapacityInternal_d00df_14 (by decide) (fun q => ?_) (fun q => ?_)
  · rw [if_pos q] at h
    exact x_sub (x_wide (by omega) (by omega) (tJ5_ensureCapacityInternal_d00df_38 C hr hR ⟨by omega, by omega⟩ h)) (xLe_n (xLe_n (xLe_n xLe_0)))
  · rw [if_neg q] at h
    refine x_aload_n (pc := 17) C dJ5_ensureCapacityInternal_d00df_17 rfl rfl ?_
    refine x_aload_n (pc := 18) C dJ5_ensureCapacityInternal_d00df_18 rfl rfl ?_
    obtain ⟨k, h⟩ := chk_s h
    have k2 := k
    obtain ⟨k, h⟩ := chk_s h
    refine x_dgetR (pc := 19) C fdJ5_15 rfl k2 k dJ5_ensureCapacityInternal_d00df_19 ?_
    refine x_aload_n (pc := 22) C dJ5_ensureCapacityInternal_d00df_22 rfl rfl ?_
    refine x_iload_n (pc := 23) C dJ5_ensureCapacityInternal_d00df_23 rfl rfl ?_
    obtain ⟨k, h⟩ := chk_s h
    have k2 := k
    obtain ⟨v1, σ2, k, h⟩ := bnd_s h
    obtain ⟨mσ2a, mσ2b⟩ := umJ5_newCapacity_0f7a4 k
    refine x_dcallU1 (pc := 24) C (x := yJ5_newCapacity_0f7a4) (mJ5_newCapacity_0f7a4 E l k) cl8 k2 ulJ5_104.1 ulJ5_104.2 uuJ5_newCapacity_0f7a4.1 uuJ5_newCapacity_0f7a4.2.1 usel uuJ5_newCapacity_0f7a4.2.2.1 uuJ5_newCapacity_0f7a4.2.2.2.1 uuJ5_newCapacity_0f7a4.2.2.2.2.1 uuJ5_newCapacity_0f7a4.2.2.2.2.2 rfl rfl (Nat.le_of_ble_eq_true rfl) ⟨(Nat.le_trans (Nat.le_of_ble_eq_true rfl) hR1), (Nat.le_trans (m := 40 * 4) (Nat.le_of_ble_eq_true rfl) hR2), by omega, by omega⟩ dJ5_ensureCapacityInternal_d00df_24 ?_
    refine x_aload_n (pc := 27) C dJ5_ensureCapacityInternal_d00df_27 rfl rfl ?_
    obtain ⟨k, h⟩ := chk_s h
    refine x_dgetI (pc := 28) C fdJ5_22 rfl k dJ5_ensureCapacityInternal_d00df_28 ?_
    refine x_ishl (pc := 31) C dJ5_ensureCapacityInternal_d00df_31 ?_
    obtain ⟨v3, σ4, k, h⟩ := bnd_s h
    obtain ⟨mσ4a, mσ4b⟩ := umJ7_copyOf_9075b k
    obtain ⟨mz1, mz2⟩ := uJ5_ensureCapacityInternal_d00df_35 h
    refine x_callS1 (pc := 32) C (mJ7_copyOf_9075b E l k) cJ5_108 zJ7_copyOf_9075b rfl rfl (Nat.le_of_ble_eq_true rfl) ⟨(Nat.le_trans (Nat.le_of_ble_eq_true rfl) hR1), (Nat.le_trans (m := 40 * 4) (Nat.le_of_ble_eq_true rfl) hR2), by omega, by omega⟩ dJ5_ensureCapacityInternal_d00df_32 ?_
    exact x_sub (x_wide (by omega) (by omega) (tJ5_ensureCapacityInternal_d00df_35 C hr hR ⟨by omega, by omega⟩ h)) (xLe_n (xLe_n (xLe_n xLe_0)))
theorem tmJ5_ensureCapacityInternal_d00df {r : Unit} {σ' : Sg} (C : Cx E p s m args meth c RJ5 cJ5_ensureCapacityInternal_d00df 3) (hr : meth.sig.returnType = none) {l0 : Nat} {l1 : Int32} {σ : Sg} (h : DJ5_ensureCapacityInternal_d00df l0 l1 σ = some (r, σ')) : X E p l e (rmA 4 (gM σ' - gM σ) (gZ σ' - gZ σ)) s m args below meth c (MQ below (QdX E none σ') args s (gM σ' - gM σ) (gZ σ' - gZ σ) (eF E)) 3 0 0 σ 0 [some (.ref (ad E l0)), some (.int l1), none] [] := by
  have hR : RR (rmA 4 (gM σ' - gM σ) (gZ σ' - gZ σ)) 4 (0 + (gM σ' - gM σ)) (0 + (gZ σ' - gZ σ)) := ⟨Nat.le_refl _, Nat.le_refl _, Nat.le_of_eq (Nat.zero_add _), Nat.le_of_eq (Nat.zero_add _)⟩
  have hq := tqJ5_ensureCapacityInternal_d00df (e := e) (l := l) (below := below) (c0 := 0) (z0 := 0) (σ0 := σ) C hr hR ⟨Nat.le_refl _, Nat.le_refl _⟩ h
  simp only [Nat.zero_add, Nat.sub_self] at hq
  exact hq
theorem mJ5_ensureCapacityInternal_d00df (E : Ev) (l : Launch) {l0 : Nat} {l1 : Int32} {σ : Sg} {r : Unit} {σ' : Sg} (h : DJ5_ensureCapacityInternal_d00df l0 l1 σ = some (r, σ')) : Mt E l yJ5_ensureCapacityInternal_d00df cJ5_ensureCapacityInternal_d00df 3 none 4 (gM σ' - gM σ) (gZ σ' - gZ σ) [.ref (ad E l0), .int l1] σ none σ' := by
  refine Mt.ofX (by decide) (Nat.le_of_ble_eq_true rfl) (L0 := [some (.ref (ad E l0)), some (.int l1), none]) (xEntN_ok [.ref (ad E l0), .int l1] 3) (fun p e s m args below meth c C hr hn => ?_)
  refine (?_ : X E p l e (rmA 4 (gM σ' - gM σ) (gZ σ' - gZ σ)) s m args below meth c (MQ below (QdX E none σ') args s (gM σ' - gM σ) (gZ σ' - gZ σ) (eF E)) 3 0 0 σ 0 [some (.ref (ad E l0)), some (.int l1), none] [])
  exact tmJ5_ensureCapacityInternal_d00df C hr h
def DJ5_inflateIfNeededFor_a7421_21 (σ : Sg) : Option (Unit × Sg) :=
  some ((), σ)
theorem uJ5_inflateIfNeededFor_a7421_21 {r : Unit} {σ' : Sg} {σ : Sg} (h : DJ5_inflateIfNeededFor_a7421_21  σ = some (r, σ')) : Me σ σ' := by
  unfold DJ5_inflateIfNeededFor_a7421_21 at h
  cases h
  exact ⟨by omega, by omega⟩
theorem tJ5_inflateIfNeededFor_a7421_21 {r : Unit} {σ' : Sg} (C : Cx E p s m args meth c RJ5 cJ5_inflateIfNeededFor_a7421 2) (hr : meth.sig.returnType = none) {σ : Sg} (h : DJ5_inflateIfNeededFor_a7421_21  σ = some (r, σ')) : Y E p l e (rmA 2 0 0) s m args below meth c none σ' 0 0 2 0 0 σ 21 [none, none] [] := by
  unfold DJ5_inflateIfNeededFor_a7421_21 at h
  cases h
  exact x_vret C hr dJ5_inflateIfNeededFor_a7421_21
def DJ5_inflateIfNeededFor_a7421 (l0 : Nat) (l1 : Nat) (σ : Sg) : Option (Unit × Sg) :=
  if (1 : Int32) = 0 then
    DJ5_inflateIfNeededFor_a7421_21 σ
  else
    chk (ckP σ 8 1 l0) <|
    chk (ckP σ 7 0 l1) <|
    bnd (DJ0_coder_7d493 l1 σ) fun v1 σ2 =>
    if (gI σ l0 1) = v1 then
      DJ5_inflateIfNeededFor_a7421_21 σ2
    else
      none
theorem umJ5_inflateIfNeededFor_a7421 {l0 : Nat} {l1 : Nat} {σ : Sg} {r : Unit} {σ' : Sg} (h : DJ5_inflateIfNeededFor_a7421 l0 l1 σ = some (r, σ')) : Me σ σ' := by
  unfold DJ5_inflateIfNeededFor_a7421 at h
  by_cases q : (1 : Int32) = 0
  · rw [if_pos q] at h
    obtain ⟨mz1, mz2⟩ := uJ5_inflateIfNeededFor_a7421_21 h
    exact ⟨by omega, by omega⟩
  · rw [if_neg q] at h
    obtain ⟨k, h⟩ := chk_s h
    obtain ⟨k, h⟩ := chk_s h
    obtain ⟨v1, σ2, k, h⟩ := bnd_s h
    obtain ⟨mσ2a, mσ2b⟩ := umJ0_coder_7d493 k
    by_cases q : (gI σ l0 1) = v1
    · rw [if_pos q] at h
      obtain ⟨mz1, mz2⟩ := uJ5_inflateIfNeededFor_a7421_21 h
      exact ⟨by omega, by omega⟩
    · rw [if_neg q] at h
      cases h
theorem mJ5_inflateIfNeededFor_a7421 (E : Ev) (l : Launch) {l0 : Nat} {l1 : Nat} {σ : Sg} {r : Unit} {σ' : Sg} (h : DJ5_inflateIfNeededFor_a7421 l0 l1 σ = some (r, σ')) : Mt E l yJ5_inflateIfNeededFor_a7421 cJ5_inflateIfNeededFor_a7421 2 none 2 0 0 [.ref (ad E l0), .ref (ad E l1)] σ none σ' := by
  refine Mt.ofX (by decide) (Nat.le_of_ble_eq_true rfl) (L0 := [some (.ref (ad E l0)), some (.ref (ad E l1))]) (xEntN_ok [.ref (ad E l0), .ref (ad E l1)] 2) (fun p e s m args below meth c C hr hn => ?_)
  unfold DJ5_inflateIfNeededFor_a7421 at h
  refine x_getC (pc := 0) C gJ5_18 dJ5_inflateIfNeededFor_a7421_0 ?_
  refine x_if_eq (pc := 3) (tgt := 21) C dJ5_inflateIfNeededFor_a7421_3 (by decide) (fun q => ?_) (fun q => ?_)
  · rw [if_pos q] at h
    exact x_sub (tJ5_inflateIfNeededFor_a7421_21 C hr h) (xLe_n (xLe_n xLe_0))
  · rw [if_neg q] at h
    refine x_aload_n (pc := 6) C dJ5_inflateIfNeededFor_a7421_6 rfl rfl ?_
    obtain ⟨k, h⟩ := chk_s h
    refine x_dgetI (pc := 7) C fdJ5_22 rfl k dJ5_inflateIfNeededFor_a7421_7 ?_
    refine x_aload_n (pc := 10) C dJ5_inflateIfNeededFor_a7421_10 rfl rfl ?_
    obtain ⟨k, h⟩ := chk_s h
    have k2 := k
    obtain ⟨v1, σ2, k, h⟩ := bnd_s h
    obtain ⟨mσ2a, mσ2b⟩ := umJ0_coder_7d493 k
    refine x_dcallV1 (pc := 11) C (mJ0_coder_7d493 E l k) cl7 k2 cJ5_40 nJ0_coder_7d493 sJ0_coder_7d493 rfl rfl (Nat.le_of_ble_eq_true rfl) ⟨Nat.le_of_ble_eq_true rfl, Nat.le_of_ble_eq_true rfl, Nat.le_of_ble_eq_true rfl, Nat.le_of_ble_eq_true rfl⟩ dJ5_inflateIfNeededFor_a7421_11 ?_
    refine x_icmp_eq (pc := 14) (tgt := 21) C dJ5_inflateIfNeededFor_a7421_14 (by decide) (fun q => ?_) (fun q => ?_)
    · rw [if_pos q] at h
      exact x_sub (tJ5_inflateIfNeededFor_a7421_21 C hr h) (xLe_n (xLe_n xLe_0))
    · rw [if_neg q] at h
      refine x_aload_n (pc := 17) C dJ5_inflateIfNeededFor_a7421_17 rfl rfl ?_
      cases h
def DJ0_getBytes_840e7 (l0 : Nat) (l1 : Nat) (l2 : Int32) (l3 : Int32) (σ : Sg) : Option (Unit × Sg) :=
  chk (ckP σ 7 0 l0) <|
  bnd (DJ0_coder_7d493 l0 σ) fun v1 σ2 =>
  if v1 = l3 then
    chk (ckP σ2 7 0 l0) <|
    chk (ckV (gR σ2 l0 0)) <|
    chk (ckP σ2 7 0 l0) <|
    chk (ckV (gR σ2 l0 0)) <|
    chk (ckQ σ2 (gR σ2 l0 0)) <|
    chk (ckY σ2 (gR σ2 l0 0) (0 : Int32) l1 (l2 <<< (l3 &&& 31)) (nI (gS σ2 (gR σ2 l0 0)).2)) <|
    wlet (cpB σ2 (gR σ2 l0 0) (0 : Int32).toNatClampNeg l1 (l2 <<< (l3 &&& 31)).toNatClampNeg (nI (gS σ2 (gR σ2 l0 0)).2).toNatClampNeg) fun σ3 =>
    some ((), σ3)
  else
    chk (ckP σ2 7 0 l0) <|
    chk (ckV (gR σ2 l0 0)) <|
    chk (ckP σ2 7 0 l0) <|
    chk (ckV (gR σ2 l0 0)) <|
    chk (ckQ σ2 (gR σ2 l0 0)) <|
    none
theorem umJ0_getBytes_840e7 {l0 : Nat} {l1 : Nat} {l2 : Int32} {l3 : Int32} {σ : Sg} {r : Unit} {σ' : Sg} (h : DJ0_getBytes_840e7 l0 l1 l2 l3 σ = some (r, σ')) : Me σ σ' := by
  unfold DJ0_getBytes_840e7 at h
  obtain ⟨k, h⟩ := chk_s h
  obtain ⟨v1, σ2, k, h⟩ := bnd_s h
  obtain ⟨mσ2a, mσ2b⟩ := umJ0_coder_7d493 k
  by_cases q : v1 = l3
  · rw [if_pos q] at h
    obtain ⟨k, h⟩ := chk_s h
    obtain ⟨k, h⟩ := chk_s h
    obtain ⟨k, h⟩ := chk_s h
    obtain ⟨k, h⟩ := chk_s h
    obtain ⟨k, h⟩ := chk_s h
    obtain ⟨k, h⟩ := chk_s h
    obtain ⟨σ3, e1, h⟩ := wlet_s h
    have mσ3 : gM σ3 = gM σ2 ∧ gZ σ3 = gZ σ2 := by rw [e1]; exact ⟨rfl, rfl⟩
    obtain ⟨mσ3a, mσ3b⟩ := mσ3
    cases h
    exact ⟨by omega, by omega⟩
  · rw [if_neg q] at h
    obtain ⟨k, h⟩ := chk_s h
    obtain ⟨k, h⟩ := chk_s h
    obtain ⟨k, h⟩ := chk_s h
    obtain ⟨k, h⟩ := chk_s h
    obtain ⟨k, h⟩ := chk_s h
    cases h
theorem mJ0_getBytes_840e7 (E : Ev) (l : Launch) {l0 : Nat} {l1 : Nat} {l2 : Int32} {l3 : Int32} {σ : Sg} {r : Unit} {σ' : Sg} (h : DJ0_getBytes_840e7 l0 l1 l2 l3 σ = some (r, σ')) : Mt E l yJ0_getBytes_840e7 cJ0_getBytes_840e7 4 none 2 0 0 [.ref (ad E l0), .ref (ad E l1), .int l2, .int l3] σ none σ' := by
  refine Mt.ofX (by decide) (Nat.le_of_ble_eq_true rfl) (L0 := [some (.ref (ad E l0)), some (.ref (ad E l1)), some (.int l2), some (.int l3)]) (xEntN_ok [.ref (ad E l0), .ref (ad E l1), .int l2, .int l3] 4) (fun p e s m args below meth c C hr hn => ?_)
  unfold DJ0_getBytes_840e7 at h
  refine x_aload_n (pc := 0) C dJ0_getBytes_840e7_0 rfl rfl ?_
  obtain ⟨k, h⟩ := chk_s h
  have k2 := k
  obtain ⟨v1, σ2, k, h⟩ := bnd_s h
  obtain ⟨mσ2a, mσ2b⟩ := umJ0_coder_7d493 k
  refine x_dcallV1 (pc := 1) C (mJ0_coder_7d493 E l k) cl7 k2 cJ0_335 nJ0_coder_7d493 sJ0_coder_7d493 rfl rfl (Nat.le_of_ble_eq_true rfl) ⟨Nat.le_of_ble_eq_true rfl, Nat.le_of_ble_eq_true rfl, Nat.le_of_ble_eq_true rfl, Nat.le_of_ble_eq_true rfl⟩ dJ0_getBytes_840e7_1 ?_
  refine x_iload_n (pc := 4) C dJ0_getBytes_840e7_4 rfl rfl ?_
  refine x_icmp_ne (pc := 5) (tgt := 28) C dJ0_getBytes_840e7_5 (by decide) (fun q => ?_) (fun q => ?_)
  · rw [if_pos q] at h
    refine x_aload_n (pc := 8) C dJ0_getBytes_840e7_8 rfl rfl ?_
    obtain ⟨k, h⟩ := chk_s h
    have k2 := k
    obtain ⟨k, h⟩ := chk_s h
    refine x_dgetR (pc := 9) C fdJ0_9 rfl k2 k dJ0_getBytes_840e7_9 ?_
    refine x_iconst (v := 0) (pc := 12) C dJ0_getBytes_840e7_12 (by decide) ?_
    refine x_aload_n (pc := 13) C dJ0_getBytes_840e7_13 rfl rfl ?_
    refine x_iload_n (pc := 14) C dJ0_getBytes_840e7_14 rfl rfl ?_
    refine x_iload_n (pc := 15) C dJ0_getBytes_840e7_15 rfl rfl ?_
    refine x_ishl (pc := 16) C dJ0_getBytes_840e7_16 ?_
    refine x_aload_n (pc := 17) C dJ0_getBytes_840e7_17 rfl rfl ?_
    obtain ⟨k, h⟩ := chk_s h
    have k2 := k
    obtain ⟨k, h⟩ := chk_s h
    refine x_dgetR (pc := 18) C fdJ0_9 rfl k2 k dJ0_getBytes_840e7_18 ?_
    obtain ⟨k, h⟩ := chk_s h
    refine x_dalen (pc := 21) C k dJ0_getBytes_840e7_21 ?_
    obtain ⟨k, h⟩ := chk_s h
    obtain ⟨σ3, e1, h⟩ := wlet_s h
    have mσ3 : gM σ3 = gM σ2 ∧ gZ σ3 = gZ σ2 := by rw [e1]; exact ⟨rfl, rfl⟩
    obtain ⟨mσ3a, mσ3b⟩ := mσ3
    refine x_acopy (pc := 22) C ayJ0_212 ay1 ay2 ay3 k ⟨Nat.le_of_ble_eq_true rfl, Nat.le_of_ble_eq_true rfl⟩ dJ0_getBytes_840e7_22 (x_eq e1 ?_)
    refine x_goto (tgt := 43) (pc := 25) C dJ0_getBytes_840e7_25 (by decide) ?_
    cases h
    exact x_vret C hr dJ0_getBytes_840e7_43
  · rw [if_neg q] at h
    refine x_aload_n (pc := 28) C dJ0_getBytes_840e7_28 rfl rfl ?_
    obtain ⟨k, h⟩ := chk_s h
    have k2 := k
    obtain ⟨k, h⟩ := chk_s h
    refine x_dgetR (pc := 29) C fdJ0_9 rfl k2 k dJ0_getBytes_840e7_29 ?_
    refine x_iconst (v := 0) (pc := 32) C dJ0_getBytes_840e7_32 (by decide) ?_
    refine x_aload_n (pc := 33) C dJ0_getBytes_840e7_33 rfl rfl ?_
    refine x_iload_n (pc := 34) C dJ0_getBytes_840e7_34 rfl rfl ?_
    refine x_aload_n (pc := 35) C dJ0_getBytes_840e7_35 rfl rfl ?_
    obtain ⟨k, h⟩ := chk_s h
    have k2 := k
    obtain ⟨k, h⟩ := chk_s h
    refine x_dgetR (pc := 36) C fdJ0_9 rfl k2 k dJ0_getBytes_840e7_36 ?_
    obtain ⟨k, h⟩ := chk_s h
    refine x_dalen (pc := 39) C k dJ0_getBytes_840e7_39 ?_
    cases h
def DJ5_putStringAt_47b60 (l0 : Nat) (l1 : Int32) (l2 : Nat) (σ : Sg) : Option (Unit × Sg) :=
  chk (ckP σ 8 0 l0) <|
  bnd (DJ5_inflateIfNeededFor_a7421 l0 l2 σ) fun _ σ1 =>
  chk (ckP σ1 8 0 l0) <|
  chk (ckV (gR σ1 l0 0)) <|
  chk (ckP σ1 8 1 l0) <|
  chk (ckP σ1 7 0 l2) <|
  bnd (DJ0_getBytes_840e7 l2 (gR σ1 l0 0) l1 (gI σ1 l0 1) σ1) fun _ σ2 =>
  some ((), σ2)
theorem umJ5_putStringAt_47b60 {l0 : Nat} {l1 : Int32} {l2 : Nat} {σ : Sg} {r : Unit} {σ' : Sg} (h : DJ5_putStringAt_47b60 l0 l1 l2 σ = some (r, σ')) : Me σ σ' := by
  unfold DJ5_putStringAt_47b60 at h
  obtain ⟨k, h⟩ := chk_s h
  obtain ⟨u0, σ1, k, h⟩ := bnd_s h
  obtain ⟨mσ1a, mσ1b⟩ := umJ5_inflateIfNeededFor_a7421 k
  obtain ⟨k, h⟩ := chk_s h
  obtain ⟨k, h⟩ := chk_s h
  obtain ⟨k, h⟩ := chk_s h
  obtain ⟨k, h⟩ := chk_s h
  obtain ⟨u0, σ2, k, h⟩ := bnd_s h
  obtain ⟨mσ2a, mσ2b⟩ := umJ0_getBytes_840e7 k
  cases h
  exact ⟨by omega, by omega⟩
theorem mJ5_putStringAt_47b60 (E : Ev) (l : Launch) {l0 : Nat} {l1 : Int32} {l2 : Nat} {σ : Sg} {r : Unit} {σ' : Sg} (h : DJ5_putStringAt_47b60 l0 l1 l2 σ = some (r, σ')) : Mt E l yJ5_putStringAt_47b60 cJ5_putStringAt_47b60 3 none 3 0 0 [.ref (ad E l0), .int l1, .ref (ad E l2)] σ none σ' := by
  refine Mt.ofX (by decide) (Nat.le_of_ble_eq_true rfl) (L0 := [some (.ref (ad E l0)), some (.int l1), some (.ref (ad E l2))]) (xEntN_ok [.ref (ad E l0), .int l1, .ref (ad E l2)] 3) (fun p e s m args below meth c C hr hn => ?_)
  unfold DJ5_putStringAt_47b60 at h
  refine x_aload_n (pc := 0) C dJ5_putStringAt_47b60_0 rfl rfl ?_
  refine x_aload_n (pc := 1) C dJ5_putStringAt_47b60_1 rfl rfl ?_
  obtain ⟨k, h⟩ := chk_s h
  have k2 := k
  obtain ⟨u0, σ1, k, h⟩ := bnd_s h
  obtain ⟨mσ1a, mσ1b⟩ := umJ5_inflateIfNeededFor_a7421 k
  refine x_dcallU0 (pc := 2) C (x := yJ5_inflateIfNeededFor_a7421) (mJ5_inflateIfNeededFor_a7421 E l k) cl8 k2 ulJ5_397.1 ulJ5_397.2 uuJ5_inflateIfNeededFor_a7421.1 uuJ5_inflateIfNeededFor_a7421.2.1 usel uuJ5_inflateIfNeededFor_a7421.2.2.1 uuJ5_inflateIfNeededFor_a7421.2.2.2.1 uuJ5_inflateIfNeededFor_a7421.2.2.2.2.1 uuJ5_inflateIfNeededFor_a7421.2.2.2.2.2 rfl rfl (Nat.le_of_ble_eq_true rfl) ⟨Nat.le_of_ble_eq_true rfl, Nat.le_of_ble_eq_true rfl, Nat.le_of_ble_eq_true rfl, Nat.le_of_ble_eq_true rfl⟩ dJ5_putStringAt_47b60_2 ?_
  refine x_aload_n (pc := 5) C dJ5_putStringAt_47b60_5 rfl rfl ?_
  refine x_aload_n (pc := 6) C dJ5_putStringAt_47b60_6 rfl rfl ?_
  obtain ⟨k, h⟩ := chk_s h
  have k2 := k
  obtain ⟨k, h⟩ := chk_s h
  refine x_dgetR (pc := 7) C fdJ5_15 rfl k2 k dJ5_putStringAt_47b60_7 ?_
  refine x_iload_n (pc := 10) C dJ5_putStringAt_47b60_10 rfl rfl ?_
  refine x_aload_n (pc := 11) C dJ5_putStringAt_47b60_11 rfl rfl ?_
  obtain ⟨k, h⟩ := chk_s h
  refine x_dgetI (pc := 12) C fdJ5_22 rfl k dJ5_putStringAt_47b60_12 ?_
  obtain ⟨k, h⟩ := chk_s h
  have k2 := k
  obtain ⟨u0, σ2, k, h⟩ := bnd_s h
  obtain ⟨mσ2a, mσ2b⟩ := umJ0_getBytes_840e7 k
  refine x_dcallV0 (pc := 15) C (mJ0_getBytes_840e7 E l k) cl7 k2 cJ5_399 nJ0_getBytes_840e7 sJ0_getBytes_840e7 rfl rfl (Nat.le_of_ble_eq_true rfl) ⟨Nat.le_of_ble_eq_true rfl, Nat.le_of_ble_eq_true rfl, Nat.le_of_ble_eq_true rfl, Nat.le_of_ble_eq_true rfl⟩ dJ5_putStringAt_47b60_15 ?_
  cases h
  exact x_vret C hr dJ5_putStringAt_47b60_18
def DJ5_append_cf1ce_24 (l0 : Nat) (l1 : Nat) (l2 : Int32) (σ : Sg) : Option (Nat × Sg) :=
  chk (ckP σ 8 3 l0) <|
  chk (ckP σ 8 0 l0) <|
  bnd (DJ5_putStringAt_47b60 l0 (gI σ l0 3) l1 σ) fun _ σ1 =>
  chk (ckP σ1 8 3 l0) <|
  chk (ckH σ1 8 l0) <|
  wlet (pI σ1 l0 3 ((gI σ1 l0 3) + l2)) fun σ2 =>
  some (l0, σ2)
theorem uJ5_append_cf1ce_24 {r : Nat} {σ' : Sg} {l0 : Nat} {l1 : Nat} {l2 : Int32} {σ : Sg} (h : DJ5_append_cf1ce_24 l0 l1 l2 σ = some (r, σ')) : Mo σ σ' := by
  unfold DJ5_append_cf1ce_24 at h
  obtain ⟨k, h⟩ := chk_s h
  obtain ⟨k, h⟩ := chk_s h
  obtain ⟨u0, σ1, k, h⟩ := bnd_s h
  obtain ⟨mσ1a, mσ1b⟩ := umJ5_putStringAt_47b60 k
  obtain ⟨k, h⟩ := chk_s h
  obtain ⟨k, h⟩ := chk_s h
  obtain ⟨σ2, e1, h⟩ := wlet_s h
  have mσ2 : gM σ2 = gM σ1 ∧ gZ σ2 = gZ σ1 := by rw [e1]; exact ⟨rfl, rfl⟩
  obtain ⟨mσ2a, mσ2b⟩ := mσ2
  cases h
  exact ⟨by omega, by omega⟩
theorem tJ5_append_cf1ce_24 {r : Nat} {σ' : Sg} (C : Cx E p s m args meth c RJ5 cJ5_append_cf1ce 3) (hr : meth.sig.returnType = (some (.object "java/lang/AbstractStringBuilder"))) (hR : RR R 5 (c0 + (gM σ' - gM σ0)) (z0 + (gZ σ' - gZ σ0))) {l0 : Nat} {l1 : Nat} {l2 : Int32} {σ : Sg} (hm : Mo σ0 σ) (h : DJ5_append_cf1ce_24 l0 l1 l2 σ = some (r, σ')) : X E p l e R s m args below meth c (MQ below (QdX E (some (.ref (ad E r))) σ') args s (c0 + (gM σ' - gM σ0)) (z0 + (gZ σ' - gZ σ0)) (eF E)) 3 (c0 + (gM σ - gM σ0)) (z0 + (gZ σ - gZ σ0)) σ 24 [some (.ref (ad E l0)), some (.ref (ad E l1)), some (.int l2)] [] := by
  obtain ⟨my1, my2⟩ := uJ5_append_cf1ce_24 h
  unfold DJ5_append_cf1ce_24 at h
  obtain ⟨hm1, hm2⟩ := hm
  obtain ⟨hR1, hR2, hR3, hR4⟩ := id hR
  refine x_aload_n (pc := 24) C dJ5_append_cf1ce_24 rfl rfl ?_
  refine x_aload_n (pc := 25) C dJ5_append_cf1ce_25 rfl rfl ?_
  obtain ⟨k, h⟩ := chk_s h
  refine x_dgetI (pc := 26) C fdJ5_79 rfl k dJ5_append_cf1ce_26 ?_
  refine x_aload_n (pc := 29) C dJ5_append_cf1ce_29 rfl rfl ?_
  obtain ⟨k, h⟩ := chk_s h
  have k2 := k
  obtain ⟨u0, σ1, k, h⟩ := bnd_s h
  obtain ⟨mσ1a, mσ1b⟩ := umJ5_putStringAt_47b60 k
  refine x_dcallU0 (pc := 30) C (x := yJ5_putStringAt_47b60) (mJ5_putStringAt_47b60 E l k) cl8 k2 ulJ5_208.1 ulJ5_208.2 uuJ5_putStringAt_47b60.1 uuJ5_putStringAt_47b60.2.1 usel uuJ5_putStringAt_47b60.2.2.1 uuJ5_putStringAt_47b60.2.2.2.1 uuJ5_putStringAt_47b60.2.2.2.2.1 uuJ5_putStringAt_47b60.2.2.2.2.2 rfl rfl (Nat.le_of_ble_eq_true rfl) ⟨(Nat.le_trans (Nat.le_of_ble_eq_true rfl) hR1), (Nat.le_trans (m := 40 * 5) (Nat.le_of_ble_eq_true rfl) hR2), by omega, by omega⟩ dJ5_append_cf1ce_30 ?_
  refine x_aload_n (pc := 33) C dJ5_append_cf1ce_33 rfl rfl ?_
  refine x_dup (pc := 34) C dJ5_append_cf1ce_34 rfl ?_
  obtain ⟨k, h⟩ := chk_s h
  refine x_dgetI (pc := 35) C fdJ5_79 rfl k dJ5_append_cf1ce_35 ?_
  refine x_iload_n (pc := 38) C dJ5_append_cf1ce_38 rfl rfl ?_
  refine x_iadd (pc := 39) C dJ5_append_cf1ce_39 ?_
  obtain ⟨k, h⟩ := chk_s h
  obtain ⟨σ2, e1, h⟩ := wlet_s h
  have mσ2 : gM σ2 = gM σ1 ∧ gZ σ2 = gZ σ1 := by rw [e1]; exact ⟨rfl, rfl⟩
  obtain ⟨mσ2a, mσ2b⟩ := mσ2
  refine x_dputI (pc := 40) C pdJ5_79 rfl k dJ5_append_cf1ce_40 (x_eq e1 ?_)
  refine x_aload_n (pc := 43) C dJ5_append_cf1ce_43 rfl rfl ?_
  cases h
  exact x_wide (by omega) (by omega) (x_aret C hr (Or.inl ⟨_, rfl⟩) dJ5_append_cf1ce_44)
def DJ5_append_cf1ce (l0 : Nat) (l1 : Nat) (σ : Sg) : Option (Nat × Sg) :=
  chk (ckP σ 7 0 l1) <|
  bnd (DJ0_length_8abf5 l1 σ) fun v1 σ2 =>
  chk (ckP σ2 8 3 l0) <|
  chk (ckP σ2 8 0 l0) <|
  bnd (DJ5_ensureCapacityInternal_d00df l0 ((gI σ2 l0 3) + v1) σ2) fun _ σ3 =>
  DJ5_append_cf1ce_24 l0 l1 v1 σ3
theorem umJ5_append_cf1ce {l0 : Nat} {l1 : Nat} {σ : Sg} {r : Nat} {σ' : Sg} (h : DJ5_append_cf1ce l0 l1 σ = some (r, σ')) : Mo σ σ' := by
  unfold DJ5_append_cf1ce at h
  obtain ⟨k, h⟩ := chk_s h
  obtain ⟨v1, σ2, k, h⟩ := bnd_s h
  obtain ⟨mσ2a, mσ2b⟩ := umJ0_length_8abf5 k
  obtain ⟨k, h⟩ := chk_s h
  obtain ⟨k, h⟩ := chk_s h
  obtain ⟨u0, σ3, k, h⟩ := bnd_s h
  obtain ⟨mσ3a, mσ3b⟩ := umJ5_ensureCapacityInternal_d00df k
  obtain ⟨mz1, mz2⟩ := uJ5_append_cf1ce_24 h
  exact ⟨by omega, by omega⟩
theorem tqJ5_append_cf1ce {r : Nat} {σ' : Sg} (C : Cx E p s m args meth c RJ5 cJ5_append_cf1ce 3) (hr : meth.sig.returnType = (some (.object "java/lang/AbstractStringBuilder"))) (hR : RR R 5 (c0 + (gM σ' - gM σ0)) (z0 + (gZ σ' - gZ σ0))) {l0 : Nat} {l1 : Nat} {σ : Sg} (hm : Mo σ0 σ) (h : DJ5_append_cf1ce l0 l1 σ = some (r, σ')) : X E p l e R s m args below meth c (MQ below (QdX E (some (.ref (ad E r))) σ') args s (c0 + (gM σ' - gM σ0)) (z0 + (gZ σ' - gZ σ0)) (eF E)) 3 (c0 + (gM σ - gM σ0)) (z0 + (gZ σ - gZ σ0)) σ 0 [some (.ref (ad E l0)), some (.ref (ad E l1)), none] [] := by
  obtain ⟨my1, my2⟩ := umJ5_append_cf1ce h
  unfold DJ5_append_cf1ce at h
  obtain ⟨hm1, hm2⟩ := hm
  obtain ⟨hR1, hR2, hR3, hR4⟩ := id hR
  refine x_aload_n (pc := 0) C dJ5_append_cf1ce_0 rfl rfl ?_
  refine x_ifnonnull (tgt := 9) (pc := 1) C dJ5_append_cf1ce_1 (by decide) ?_
  refine x_aload_n (pc := 9) C dJ5_append_cf1ce_9 rfl rfl ?_
  obtain ⟨k, h⟩ := chk_s h
  have k2 := k
  obtain ⟨v1, σ2, k, h⟩ := bnd_s h
  obtain ⟨mσ2a, mσ2b⟩ := umJ0_length_8abf5 k
  refine x_dcallV1 (pc := 10) C (mJ0_length_8abf5 E l k) cl7 k2 cJ5_32 nJ0_length_8abf5 sJ0_length_8abf5 rfl rfl (Nat.le_of_ble_eq_true rfl) ⟨(Nat.le_trans (Nat.le_of_ble_eq_true rfl) hR1), (Nat.le_trans (m := 40 * 5) (Nat.le_of_ble_eq_true rfl) hR2), by omega, by omega⟩ dJ5_append_cf1ce_10 ?_
  refine x_istore_n (M := [some _, some _, some _]) (pc := 13) C dJ5_append_cf1ce_13 rfl (by decide) rfl ?_
  refine x_aload_n (pc := 14) C dJ5_append_cf1ce_14 rfl rfl ?_
  refine x_aload_n (pc := 15) C dJ5_append_cf1ce_15 rfl rfl ?_
  obtain ⟨k, h⟩ := chk_s h
  refine x_dgetI (pc := 16) C fdJ5_79 rfl k dJ5_append_cf1ce_16 ?_
  refine x_iload_n (pc := 19) C dJ5_append_cf1ce_19 rfl rfl ?_
  refine x_iadd (pc := 20) C dJ5_append_cf1ce_20 ?_
  obtain ⟨k, h⟩ := chk_s h
  have k2 := k
  obtain ⟨u0, σ3, k, h⟩ := bnd_s h
  obtain ⟨mσ3a, mσ3b⟩ := umJ5_ensureCapacityInternal_d00df k
  obtain ⟨mz1, mz2⟩ := uJ5_append_cf1ce_24 h
  refine x_dcallU0 (pc := 21) C (x := yJ5_ensureCapacityInternal_d00df) (mJ5_ensureCapacityInternal_d00df E l k) cl8 k2 ulJ5_100.1 ulJ5_100.2 uuJ5_ensureCapacityInternal_d00df.1 uuJ5_ensureCapacityInternal_d00df.2.1 usel uuJ5_ensureCapacityInternal_d00df.2.2.1 uuJ5_ensureCapacityInternal_d00df.2.2.2.1 uuJ5_ensureCapacityInternal_d00df.2.2.2.2.1 uuJ5_ensureCapacityInternal_d00df.2.2.2.2.2 rfl rfl (Nat.le_of_ble_eq_true rfl) ⟨(Nat.le_trans (Nat.le_of_ble_eq_true rfl) hR1), (Nat.le_trans (m := 40 * 5) (Nat.le_of_ble_eq_true rfl) hR2), by omega, by omega⟩ dJ5_append_cf1ce_21 ?_
  exact x_sub (x_wide (by omega) (by omega) (tJ5_append_cf1ce_24 C hr hR ⟨by omega, by omega⟩ h)) (xLe_s (xLe_s (xLe_s xLe_0)))
theorem tmJ5_append_cf1ce {r : Nat} {σ' : Sg} (C : Cx E p s m args meth c RJ5 cJ5_append_cf1ce 3) (hr : meth.sig.returnType = (some (.object "java/lang/AbstractStringBuilder"))) {l0 : Nat} {l1 : Nat} {σ : Sg} (h : DJ5_append_cf1ce l0 l1 σ = some (r, σ')) : X E p l e (rmA 5 (gM σ' - gM σ) (gZ σ' - gZ σ)) s m args below meth c (MQ below (QdX E (some (.ref (ad E r))) σ') args s (gM σ' - gM σ) (gZ σ' - gZ σ) (eF E)) 3 0 0 σ 0 [some (.ref (ad E l0)), some (.ref (ad E l1)), none] [] := by
  have hR : RR (rmA 5 (gM σ' - gM σ) (gZ σ' - gZ σ)) 5 (0 + (gM σ' - gM σ)) (0 + (gZ σ' - gZ σ)) := ⟨Nat.le_refl _, Nat.le_refl _, Nat.le_of_eq (Nat.zero_add _), Nat.le_of_eq (Nat.zero_add _)⟩
  have hq := tqJ5_append_cf1ce (e := e) (l := l) (below := below) (c0 := 0) (z0 := 0) (σ0 := σ) C hr hR ⟨Nat.le_refl _, Nat.le_refl _⟩ h
  simp only [Nat.zero_add, Nat.sub_self] at hq
  exact hq
theorem mJ5_append_cf1ce (E : Ev) (l : Launch) {l0 : Nat} {l1 : Nat} {σ : Sg} {r : Nat} {σ' : Sg} (h : DJ5_append_cf1ce l0 l1 σ = some (r, σ')) : Mt E l yJ5_append_cf1ce cJ5_append_cf1ce 3 (some (.object "java/lang/AbstractStringBuilder")) 5 (gM σ' - gM σ) (gZ σ' - gZ σ) [.ref (ad E l0), .ref (ad E l1)] σ (some (.ref (ad E r))) σ' := by
  refine Mt.ofX (by decide) (Nat.le_of_ble_eq_true rfl) (L0 := [some (.ref (ad E l0)), some (.ref (ad E l1)), none]) (xEntN_ok [.ref (ad E l0), .ref (ad E l1)] 3) (fun p e s m args below meth c C hr hn => ?_)
  refine (?_ : X E p l e (rmA 5 (gM σ' - gM σ) (gZ σ' - gZ σ)) s m args below meth c (MQ below (QdX E (some (.ref (ad E r))) σ') args s (gM σ' - gM σ) (gZ σ' - gZ σ) (eF E)) 3 0 0 σ 0 [some (.ref (ad E l0)), some (.ref (ad E l1)), none] [])
  exact tmJ5_append_cf1ce C hr h
def DJ4_append_15ec4_5 (l0 : Nat) (s0 : Nat) (σ : Sg) : Option (Nat × Sg) :=
  some (l0, σ)
theorem uJ4_append_15ec4_5 {r : Nat} {σ' : Sg} {l0 : Nat} {s0 : Nat} {σ : Sg} (h : DJ4_append_15ec4_5 l0 s0 σ = some (r, σ')) : Mo σ σ' := by
  unfold DJ4_append_15ec4_5 at h
  cases h
  exact ⟨by omega, by omega⟩
theorem tJ4_append_15ec4_5 {r : Nat} {σ' : Sg} (C : Cx E p s m args meth c RJ4 cJ4_append_15ec4 2) (hr : meth.sig.returnType = (some (.object "java/lang/StringBuilder"))) (hR : RR R 6 (c0 + (gM σ' - gM σ0)) (z0 + (gZ σ' - gZ σ0))) {l0 : Nat} {s0 : Nat} {σ : Sg} (hm : Mo σ0 σ) (h : DJ4_append_15ec4_5 l0 s0 σ = some (r, σ')) : X E p l e R s m args below meth c (MQ below (QdX E (some (.ref (ad E r))) σ') args s (c0 + (gM σ' - gM σ0)) (z0 + (gZ σ' - gZ σ0)) (eF E)) 2 (c0 + (gM σ - gM σ0)) (z0 + (gZ σ - gZ σ0)) σ 5 [some (.ref (ad E l0)), none] [.ref (ad E s0)] := by
  obtain ⟨my1, my2⟩ := uJ4_append_15ec4_5 h
  unfold DJ4_append_15ec4_5 at h
  obtain ⟨hm1, hm2⟩ := hm
  obtain ⟨hR1, hR2, hR3, hR4⟩ := id hR
  refine x_pop (pc := 5) C dJ4_append_15ec4_5 rfl ?_
  refine x_aload_n (pc := 6) C dJ4_append_15ec4_6 rfl rfl ?_
  cases h
  exact x_wide (by omega) (by omega) (x_aret C hr (Or.inl ⟨_, rfl⟩) dJ4_append_15ec4_7)
def DJ4_append_15ec4 (l0 : Nat) (l1 : Nat) (σ : Sg) : Option (Nat × Sg) :=
  chk (ckP σ 8 0 l0) <|
  bnd (DJ5_append_cf1ce l0 l1 σ) fun v1 σ2 =>
  DJ4_append_15ec4_5 l0 v1 σ2
theorem umJ4_append_15ec4 {l0 : Nat} {l1 : Nat} {σ : Sg} {r : Nat} {σ' : Sg} (h : DJ4_append_15ec4 l0 l1 σ = some (r, σ')) : Mo σ σ' := by
  unfold DJ4_append_15ec4 at h
  obtain ⟨k, h⟩ := chk_s h
  obtain ⟨v1, σ2, k, h⟩ := bnd_s h
  obtain ⟨mσ2a, mσ2b⟩ := umJ5_append_cf1ce k
  obtain ⟨mz1, mz2⟩ := uJ4_append_15ec4_5 h
  exact ⟨by omega, by omega⟩
theorem tqJ4_append_15ec4 {r : Nat} {σ' : Sg} (C : Cx E p s m args meth c RJ4 cJ4_append_15ec4 2) (hr : meth.sig.returnType = (some (.object "java/lang/StringBuilder"))) (hR : RR R 6 (c0 + (gM σ' - gM σ0)) (z0 + (gZ σ' - gZ σ0))) {l0 : Nat} {l1 : Nat} {σ : Sg} (hm : Mo σ0 σ) (h : DJ4_append_15ec4 l0 l1 σ = some (r, σ')) : X E p l e R s m args below meth c (MQ below (QdX E (some (.ref (ad E r))) σ') args s (c0 + (gM σ' - gM σ0)) (z0 + (gZ σ' - gZ σ0)) (eF E)) 2 (c0 + (gM σ - gM σ0)) (z0 + (gZ σ - gZ σ0)) σ 0 [some (.ref (ad E l0)), some (.ref (ad E l1))] [] := by
  obtain ⟨my1, my2⟩ := umJ4_append_15ec4 h
  unfold DJ4_append_15ec4 at h
  obtain ⟨hm1, hm2⟩ := hm
  obtain ⟨hR1, hR2, hR3, hR4⟩ := id hR
  refine x_aload_n (pc := 0) C dJ4_append_15ec4_0 rfl rfl ?_
  refine x_aload_n (pc := 1) C dJ4_append_15ec4_1 rfl rfl ?_
  obtain ⟨k, h⟩ := chk_s h
  have k2 := k
  obtain ⟨v1, σ2, k, h⟩ := bnd_s h
  obtain ⟨mσ2a, mσ2b⟩ := umJ5_append_cf1ce k
  obtain ⟨mz1, mz2⟩ := uJ4_append_15ec4_5 h
  refine x_dcallSU1 (pc := 2) C (mJ5_append_cf1ce E l k) cl8 k2 suJ4_29 rfl rfl (Nat.le_of_ble_eq_true rfl) ⟨(Nat.le_trans (Nat.le_of_ble_eq_true rfl) hR1), (Nat.le_trans (m := 40 * 6) (Nat.le_of_ble_eq_true rfl) hR2), by omega, by omega⟩ dJ4_append_15ec4_2 ?_
  exact x_sub (x_wide (by omega) (by omega) (tJ4_append_15ec4_5 C hr hR ⟨by omega, by omega⟩ h)) (xLe_s (xLe_n xLe_0))
theorem tmJ4_append_15ec4 {r : Nat} {σ' : Sg} (C : Cx E p s m args meth c RJ4 cJ4_append_15ec4 2) (hr : meth.sig.returnType = (some (.object "java/lang/StringBuilder"))) {l0 : Nat} {l1 : Nat} {σ : Sg} (h : DJ4_append_15ec4 l0 l1 σ = some (r, σ')) : X E p l e (rmA 6 (gM σ' - gM σ) (gZ σ' - gZ σ)) s m args below meth c (MQ below (QdX E (some (.ref (ad E r))) σ') args s (gM σ' - gM σ) (gZ σ' - gZ σ) (eF E)) 2 0 0 σ 0 [some (.ref (ad E l0)), some (.ref (ad E l1))] [] := by
  have hR : RR (rmA 6 (gM σ' - gM σ) (gZ σ' - gZ σ)) 6 (0 + (gM σ' - gM σ)) (0 + (gZ σ' - gZ σ)) := ⟨Nat.le_refl _, Nat.le_refl _, Nat.le_of_eq (Nat.zero_add _), Nat.le_of_eq (Nat.zero_add _)⟩
  have hq := tqJ4_append_15ec4 (e := e) (l := l) (below := below) (c0 := 0) (z0 := 0) (σ0 := σ) C hr hR ⟨Nat.le_refl _, Nat.le_refl _⟩ h
  simp only [Nat.zero_add, Nat.sub_self] at hq
  exact hq
theorem mJ4_append_15ec4 (E : Ev) (l : Launch) {l0 : Nat} {l1 : Nat} {σ : Sg} {r : Nat} {σ' : Sg} (h : DJ4_append_15ec4 l0 l1 σ = some (r, σ')) : Mt E l yJ4_append_15ec4 cJ4_append_15ec4 2 (some (.object "java/lang/StringBuilder")) 6 (gM σ' - gM σ) (gZ σ' - gZ σ) [.ref (ad E l0), .ref (ad E l1)] σ (some (.ref (ad E r))) σ' := by
  refine Mt.ofX (by decide) (Nat.le_of_ble_eq_true rfl) (L0 := [some (.ref (ad E l0)), some (.ref (ad E l1))]) (xEntN_ok [.ref (ad E l0), .ref (ad E l1)] 2) (fun p e s m args below meth c C hr hn => ?_)
  refine (?_ : X E p l e (rmA 6 (gM σ' - gM σ) (gZ σ' - gZ σ)) s m args below meth c (MQ below (QdX E (some (.ref (ad E r))) σ') args s (gM σ' - gM σ) (gZ σ' - gZ σ) (eF E)) 2 0 0 σ 0 [some (.ref (ad E l0)), some (.ref (ad E l1))] [])
  exact tmJ4_append_15ec4 C hr h
def DJ6_stringSize_0f7a4_27 (l1 : Int32) (l3 : Int32) (σ : Sg) : Option (Int32 × Sg) :=
  some ((l3 + l1), σ)
theorem uJ6_stringSize_0f7a4_27 {r : Int32} {σ' : Sg} {l1 : Int32} {l3 : Int32} {σ : Sg} (h : DJ6_stringSize_0f7a4_27 l1 l3 σ = some (r, σ')) : Me σ σ' := by
  unfold DJ6_stringSize_0f7a4_27 at h
  cases h
  exact ⟨by omega, by omega⟩
theorem tJ6_stringSize_0f7a4_27 {r : Int32} {σ' : Sg} (C : Cx E p s m args meth c RJ6 cJ6_stringSize_0f7a4 4) (hr : meth.sig.returnType = (some .int)) {l1 : Int32} {l3 : Int32} {σ : Sg} (h : DJ6_stringSize_0f7a4_27 l1 l3 σ = some (r, σ')) : Y E p l e (rmA 1 0 0) s m args below meth c (some (.int r)) σ' 0 0 4 0 0 σ 27 [none, some (.int l1), none, some (.int l3)] [] := by
  unfold DJ6_stringSize_0f7a4_27 at h
  refine x_iload_n (pc := 27) C dJ6_stringSize_0f7a4_27 rfl rfl ?_
  refine x_iload_n (pc := 28) C dJ6_stringSize_0f7a4_28 rfl rfl ?_
  refine x_iadd (pc := 29) C dJ6_stringSize_0f7a4_29 ?_
  cases h
  exact x_iret C hr dJ6_stringSize_0f7a4_30
def DJ6_stringSize_0f7a4_42 (l1 : Int32) (σ : Sg) : Option (Int32 × Sg) :=
  some (((10 : Int32) + l1), σ)
theorem uJ6_stringSize_0f7a4_42 {r : Int32} {σ' : Sg} {l1 : Int32} {σ : Sg} (h : DJ6_stringSize_0f7a4_42 l1 σ = some (r, σ')) : Me σ σ' := by
  unfold DJ6_stringSize_0f7a4_42 at h
  cases h
  exact ⟨by omega, by omega⟩
theorem tJ6_stringSize_0f7a4_42 {r : Int32} {σ' : Sg} (C : Cx E p s m args meth c RJ6 cJ6_stringSize_0f7a4 4) (hr : meth.sig.returnType = (some .int)) {l1 : Int32} {σ : Sg} (h : DJ6_stringSize_0f7a4_42 l1 σ = some (r, σ')) : Y E p l e (rmA 1 0 0) s m args below meth c (some (.int r)) σ' 0 0 4 0 0 σ 42 [none, some (.int l1), none, none] [] := by
  unfold DJ6_stringSize_0f7a4_42 at h
  refine x_bipush (v := 10) (pc := 42) C dJ6_stringSize_0f7a4_42 (by decide) ?_
  refine x_iload_n (pc := 44) C dJ6_stringSize_0f7a4_44 rfl rfl ?_
  refine x_iadd (pc := 45) C dJ6_stringSize_0f7a4_45 ?_
  cases h
  exact x_iret C hr dJ6_stringSize_0f7a4_46
def DJ6_stringSize_0f7a4_16 : Nat → Int32 → Int32 → Int32 → Int32 → Sg → Option (Int32 × Sg)
  | 0, _, _, _, _, _ => none
  | n + 1, l0, l1, l2, l3, σ =>
    if (10 : Int32) ≤ l3 then
      DJ6_stringSize_0f7a4_42 l1 σ
    else
      if l0 ≤ l2 then
        DJ6_stringSize_0f7a4_16 n l0 l1 ((10 : Int32) * l2) (l3 + (1 : Int32)) σ
      else
        DJ6_stringSize_0f7a4_27 l1 l3 σ
theorem uJ6_stringSize_0f7a4_16 {r : Int32} {σ' : Sg} : ∀ (n : Nat) (l0 : Int32) (l1 : Int32) (l2 : Int32) (l3 : Int32) (σ : Sg) (h : DJ6_stringSize_0f7a4_16 n l0 l1 l2 l3 σ = some (r, σ')), Me σ σ' := by
  intro n
  induction n with
  | zero => intro l0 l1 l2 l3 σ h; cases h
  | succ n ih =>
    intro l0 l1 l2 l3 σ h
    unfold DJ6_stringSize_0f7a4_16 at h
    by_cases q : (10 : Int32) ≤ l3
    · rw [if_pos q] at h
      obtain ⟨mz1, mz2⟩ := uJ6_stringSize_0f7a4_42 h
      exact ⟨by omega, by omega⟩
    · rw [if_neg q] at h
      by_cases q : l0 ≤ l2
      · rw [if_pos q] at h
        obtain ⟨mz1, mz2⟩ := ih _ _ _ _ _ h
        exact ⟨by omega, by omega⟩
      · rw [if_neg q] at h
        obtain ⟨mz1, mz2⟩ := uJ6_stringSize_0f7a4_27 h
        exact ⟨by omega, by omega⟩
theorem tJ6_stringSize_0f7a4_16 {r : Int32} {σ' : Sg} (C : Cx E p s m args meth c RJ6 cJ6_stringSize_0f7a4 4) (hr : meth.sig.returnType = (some .int)) : ∀ (n : Nat) (l0 : Int32) (l1 : Int32) (l2 : Int32) (l3 : Int32) (σ : Sg) (h : DJ6_stringSize_0f7a4_16 n l0 l1 l2 l3 σ = some (r, σ')), Y E p l e (rmA 1 0 0) s m args below meth c (some (.int r)) σ' 0 0 4 0 0 σ 16 [some (.int l0), some (.int l1), some (.int l2), some (.int l3)] [] := by
  intro n
  induction n with
  | zero => intro l0 l1 l2 l3 σ h; cases h
  | succ n ih =>
    intro l0 l1 l2 l3 σ h
    unfold DJ6_stringSize_0f7a4_16 at h
    refine x_iload_n (pc := 16) C dJ6_stringSize_0f7a4_16 rfl rfl ?_
    refine x_bipush (v := 10) (pc := 17) C dJ6_stringSize_0f7a4_17 (by decide) ?_
    refine x_icmp_ge (pc := 19) (tgt := 42) C dJ6_stringSize_0f7a4_19 (by decide) (fun q => ?_) (fun q => ?_)
    · rw [if_pos q] at h
      exact x_sub (tJ6_stringSize_0f7a4_42 C hr h) (xLe_n (xLe_s (xLe_n (xLe_n xLe_0))))
    · rw [if_neg q] at h
      refine x_iload_n (pc := 22) C dJ6_stringSize_0f7a4_22 rfl rfl ?_
      refine x_iload_n (pc := 23) C dJ6_stringSize_0f7a4_23 rfl rfl ?_
      refine x_icmp_le (pc := 24) (tgt := 31) C dJ6_stringSize_0f7a4_24 (by decide) (fun q => ?_) (fun q => ?_)
      · rw [if_pos q] at h
        refine x_bipush (v := 10) (pc := 31) C dJ6_stringSize_0f7a4_31 (by decide) ?_
        refine x_iload_n (pc := 33) C dJ6_stringSize_0f7a4_33 rfl rfl ?_
        refine x_imul (pc := 34) C dJ6_stringSize_0f7a4_34 ?_
        refine x_istore_n (M := [some _, some _, some _, some _]) (pc := 35) C dJ6_stringSize_0f7a4_35 rfl (by decide) rfl ?_
        refine x_iinc (v := 1) (M := [some _, some _, some _, some _]) (pc := 36) C dJ6_stringSize_0f7a4_36 rfl (by decide) (by decide) rfl ?_
        refine x_goto (tgt := 16) (pc := 39) C dJ6_stringSize_0f7a4_39 (by decide) ?_
        exact x_sub (ih _ _ _ _ _ h) (xLe_s (xLe_s (xLe_s (xLe_s xLe_0))))
      · rw [if_neg q] at h
        exact x_sub (tJ6_stringSize_0f7a4_27 C hr h) (xLe_n (xLe_s (xLe_n (xLe_s xLe_0))))
def DJ6_stringSize_0f7a4_11 (l0 : Int32) (l1 : Int32) (σ : Sg) : Option (Int32 × Sg) :=
  DJ6_stringSize_0f7a4_16 FU l0 l1 (-10 : Int32) (1 : Int32) σ
theorem uJ6_stringSize_0f7a4_11 {r : Int32} {σ' : Sg} {l0 : Int32} {l1 : Int32} {σ : Sg} (h : DJ6_stringSize_0f7a4_11 l0 l1 σ = some (r, σ')) : Me σ σ' := by
  unfold DJ6_stringSize_0f7a4_11 at h
  obtain ⟨mz1, mz2⟩ := uJ6_stringSize_0f7a4_16 FU _ _ _ _ _ h
  exact ⟨by omega, by omega⟩
theorem tJ6_stringSize_0f7a4_11 {r : Int32} {σ' : Sg} (C : Cx E p s m args meth c RJ6 cJ6_stringSize_0f7a4 4) (hr : meth.sig.returnType = (some .int)) {l0 : Int32} {l1 : Int32} {σ : Sg} (h : DJ6_stringSize_0f7a4_11 l0 l1 σ = some (r, σ')) : Y E p l e (rmA 1 0 0) s m args below meth c (some (.int r)) σ' 0 0 4 0 0 σ 11 [some (.int l0), some (.int l1), none, none] [] := by
  unfold DJ6_stringSize_0f7a4_11 at h
  refine x_bipush (v := -10) (pc := 11) C dJ6_stringSize_0f7a4_11 (by decide) ?_
  refine x_istore_n (M := [some _, some _, some _, none]) (pc := 13) C dJ6_stringSize_0f7a4_13 rfl (by decide) rfl ?_
  refine x_iconst (v := 1) (pc := 14) C dJ6_stringSize_0f7a4_14 (by decide) ?_
  refine x_istore_n (M := [some _, some _, some _, some _]) (pc := 15) C dJ6_stringSize_0f7a4_15 rfl (by decide) rfl ?_
  exact x_sub (tJ6_stringSize_0f7a4_16 C hr FU _ _ _ _ _ h) (xLe_s (xLe_s (xLe_s (xLe_s xLe_0))))
def DJ6_stringSize_0f7a4 (l0 : Int32) (σ : Sg) : Option (Int32 × Sg) :=
  if l0 < 0 then
    DJ6_stringSize_0f7a4_11 l0 (1 : Int32) σ
  else
    DJ6_stringSize_0f7a4_11 (-l0) (0 : Int32) σ
theorem umJ6_stringSize_0f7a4 {l0 : Int32} {σ : Sg} {r : Int32} {σ' : Sg} (h : DJ6_stringSize_0f7a4 l0 σ = some (r, σ')) : Me σ σ' := by
  unfold DJ6_stringSize_0f7a4 at h
  by_cases q : l0 < 0
  · rw [if_pos q] at h
    obtain ⟨mz1, mz2⟩ := uJ6_stringSize_0f7a4_11 h
    exact ⟨by omega, by omega⟩
  · rw [if_neg q] at h
    obtain ⟨mz1, mz2⟩ := uJ6_stringSize_0f7a4_11 h
    exact ⟨by omega, by omega⟩
theorem mJ6_stringSize_0f7a4 (E : Ev) (l : Launch) {l0 : Int32} {σ : Sg} {r : Int32} {σ' : Sg} (h : DJ6_stringSize_0f7a4 l0 σ = some (r, σ')) : Mt E l yJ6_stringSize_0f7a4 cJ6_stringSize_0f7a4 4 (some .int) 1 0 0 [.int l0] σ (some (.int r)) σ' := by
  refine Mt.ofX (by decide) (Nat.le_of_ble_eq_true rfl) (L0 := [some (.int l0), none, none, none]) (xEntN_ok [.int l0] 4) (fun p e s m args below meth c C hr hn => ?_)
  unfold DJ6_stringSize_0f7a4 at h
  refine x_iconst (v := 1) (pc := 0) C dJ6_stringSize_0f7a4_0 (by decide) ?_
  refine x_istore_n (M := [some _, some _, none, none]) (pc := 1) C dJ6_stringSize_0f7a4_1 rfl (by decide) rfl ?_
  refine x_iload_n (pc := 2) C dJ6_stringSize_0f7a4_2 rfl rfl ?_
  refine x_if_lt (pc := 3) (tgt := 11) C dJ6_stringSize_0f7a4_3 (by decide) (fun q => ?_) (fun q => ?_)
  · rw [if_pos q] at h
    exact x_sub (tJ6_stringSize_0f7a4_11 C hr h) (xLe_s (xLe_s (xLe_n (xLe_n xLe_0))))
  · rw [if_neg q] at h
    refine x_iconst (v := 0) (pc := 6) C dJ6_stringSize_0f7a4_6 (by decide) ?_
    refine x_istore_n (M := [some _, some _, none, none]) (pc := 7) C dJ6_stringSize_0f7a4_7 rfl (by decide) rfl ?_
    refine x_iload_n (pc := 8) C dJ6_stringSize_0f7a4_8 rfl rfl ?_
    refine x_ineg (pc := 9) C dJ6_stringSize_0f7a4_9 ?_
    refine x_istore_n (M := [some _, some _, none, none]) (pc := 10) C dJ6_stringSize_0f7a4_10 rfl (by decide) rfl ?_
    exact x_sub (tJ6_stringSize_0f7a4_11 C hr h) (xLe_s (xLe_s (xLe_n (xLe_n xLe_0))))
def DJ5_isLatin1_aae02_18 (s0 : Int32) (σ : Sg) : Option (Int32 × Sg) :=
  chk (ck01 s0) <|
  some (s0, σ)
theorem uJ5_isLatin1_aae02_18 {r : Int32} {σ' : Sg} {s0 : Int32} {σ : Sg} (h : DJ5_isLatin1_aae02_18 s0 σ = some (r, σ')) : Me σ σ' := by
  unfold DJ5_isLatin1_aae02_18 at h
  obtain ⟨kz, h⟩ := chk_s h
  cases h
  exact ⟨by omega, by omega⟩
theorem tJ5_isLatin1_aae02_18 {r : Int32} {σ' : Sg} (C : Cx E p s m args meth c RJ5 cJ5_isLatin1_aae02 1) (hr : meth.sig.returnType = (some .boolean)) {s0 : Int32} {σ : Sg} (h : DJ5_isLatin1_aae02_18 s0 σ = some (r, σ')) : Y E p l e (rmA 1 0 0) s m args below meth c (some (.int r)) σ' 0 0 1 0 0 σ 18 [none] [.int s0] := by
  unfold DJ5_isLatin1_aae02_18 at h
  obtain ⟨kz, h⟩ := chk_s h
  cases h
  exact x_zret C hr (nar_01 kz) dJ5_isLatin1_aae02_18
def DJ5_isLatin1_aae02_17 (σ : Sg) : Option (Int32 × Sg) :=
  DJ5_isLatin1_aae02_18 (0 : Int32) σ
theorem uJ5_isLatin1_aae02_17 {r : Int32} {σ' : Sg} {σ : Sg} (h : DJ5_isLatin1_aae02_17  σ = some (r, σ')) : Me σ σ' := by
  unfold DJ5_isLatin1_aae02_17 at h
  obtain ⟨mz1, mz2⟩ := uJ5_isLatin1_aae02_18 h
  exact ⟨by omega, by omega⟩
theorem tJ5_isLatin1_aae02_17 {r : Int32} {σ' : Sg} (C : Cx E p s m args meth c RJ5 cJ5_isLatin1_aae02 1) (hr : meth.sig.returnType = (some .boolean)) {σ : Sg} (h : DJ5_isLatin1_aae02_17  σ = some (r, σ')) : Y E p l e (rmA 1 0 0) s m args below meth c (some (.int r)) σ' 0 0 1 0 0 σ 17 [none] [] := by
  unfold DJ5_isLatin1_aae02_17 at h
  refine x_iconst (v := 0) (pc := 17) C dJ5_isLatin1_aae02_17 (by decide) ?_
  exact x_sub (tJ5_isLatin1_aae02_18 C hr h) (xLe_n xLe_0)
def DJ5_isLatin1_aae02 (l0 : Nat) (σ : Sg) : Option (Int32 × Sg) :=
  if (1 : Int32) = 0 then
    DJ5_isLatin1_aae02_17 σ
  else
    chk (ckP σ 8 1 l0) <|
    if (gI σ l0 1) = 0 then
      DJ5_isLatin1_aae02_18 (1 : Int32) σ
    else
      DJ5_isLatin1_aae02_17 σ
theorem umJ5_isLatin1_aae02 {l0 : Nat} {σ : Sg} {r : Int32} {σ' : Sg} (h : DJ5_isLatin1_aae02 l0 σ = some (r, σ')) : Me σ σ' := by
  unfold DJ5_isLatin1_aae02 at h
  by_cases q : (1 : Int32) = 0
  · rw [if_pos q] at h
    obtain ⟨mz1, mz2⟩ := uJ5_isLatin1_aae02_17 h
    exact ⟨by omega, by omega⟩
  · rw [if_neg q] at h
    obtain ⟨k, h⟩ := chk_s h
    by_cases q : (gI σ l0 1) = 0
    · rw [if_pos q] at h
      obtain ⟨mz1, mz2⟩ := uJ5_isLatin1_aae02_18 h
      exact ⟨by omega, by omega⟩
    · rw [if_neg q] at h
      obtain ⟨mz1, mz2⟩ := uJ5_isLatin1_aae02_17 h
      exact ⟨by omega, by omega⟩
theorem mJ5_isLatin1_aae02 (E : Ev) (l : Launch) {l0 : Nat} {σ : Sg} {r : Int32} {σ' : Sg} (h : DJ5_isLatin1_aae02 l0 σ = some (r, σ')) : Mt E l yJ5_isLatin1_aae02 cJ5_isLatin1_aae02 1 (some .boolean) 1 0 0 [.ref (ad E l0)] σ (some (.int r)) σ' := by
  refine Mt.ofX (by decide) (Nat.le_of_ble_eq_true rfl) (L0 := [some (.ref (ad E l0))]) (xEntN_ok [.ref (ad E l0)] 1) (fun p e s m args below meth c C hr hn => ?_)
  unfold DJ5_isLatin1_aae02 at h
  refine x_getC (pc := 0) C gJ5_18 dJ5_isLatin1_aae02_0 ?_
  refine x_if_eq (pc := 3) (tgt := 17) C dJ5_isLatin1_aae02_3 (by decide) (fun q => ?_) (fun q => ?_)
  · rw [if_pos q] at h
    exact x_sub (tJ5_isLatin1_aae02_17 C hr h) (xLe_n xLe_0)
  · rw [if_neg q] at h
    refine x_aload_n (pc := 6) C dJ5_isLatin1_aae02_6 rfl rfl ?_
    obtain ⟨k, h⟩ := chk_s h
    refine x_dgetI (pc := 7) C fdJ5_22 rfl k dJ5_isLatin1_aae02_7 ?_
    refine x_if_ne (pc := 10) (tgt := 17) C dJ5_isLatin1_aae02_10 (by decide) (fun q => ?_) (fun q => ?_)
    · rw [if_pos q] at h
      refine x_iconst (v := 1) (pc := 13) C dJ5_isLatin1_aae02_13 (by decide) ?_
      refine x_goto (tgt := 18) (pc := 14) C dJ5_isLatin1_aae02_14 (by decide) ?_
      exact x_sub (tJ5_isLatin1_aae02_18 C hr h) (xLe_n xLe_0)
    · rw [if_neg q] at h
      exact x_sub (tJ5_isLatin1_aae02_17 C hr h) (xLe_n xLe_0)
def DJ6_getChars_ba4f3_118 (l5 : Int32) (σ : Sg) : Option (Int32 × Sg) :=
  some (l5, σ)
theorem uJ6_getChars_ba4f3_118 {r : Int32} {σ' : Sg} {l5 : Int32} {σ : Sg} (h : DJ6_getChars_ba4f3_118 l5 σ = some (r, σ')) : Me σ σ' := by
  unfold DJ6_getChars_ba4f3_118 at h
  cases h
  exact ⟨by omega, by omega⟩
theorem tJ6_getChars_ba4f3_118 {r : Int32} {σ' : Sg} (C : Cx E p s m args meth c RJ6 cJ6_getChars_ba4f3 7) (hr : meth.sig.returnType = (some .int)) {l5 : Int32} {σ : Sg} (h : DJ6_getChars_ba4f3_118 l5 σ = some (r, σ')) : Y E p l e (rmA 1 0 0) s m args below meth c (some (.int r)) σ' 0 0 7 0 0 σ 118 [none, none, none, none, none, some (.int l5), none] [] := by
  unfold DJ6_getChars_ba4f3_118 at h
  refine x_iload (pc := 118) C dJ6_getChars_ba4f3_118 rfl ?_
  cases h
  exact x_iret C hr dJ6_getChars_ba4f3_120
def DJ6_getChars_ba4f3_104 (l2 : Nat) (l5 : Int32) (l6 : Int32) (σ : Sg) : Option (Int32 × Sg) :=
  if l6 = 0 then
    DJ6_getChars_ba4f3_118 l5 σ
  else
    chk (ckB σ 6 l2 (l5 + (-1 : Int32))) <|
    wlet (wI σ l2 (l5 + (-1 : Int32)).toNatClampNeg (45 : Int32).toInt8.toInt32) fun σ1 =>
    DJ6_getChars_ba4f3_118 (l5 + (-1 : Int32)) σ1
theorem uJ6_getChars_ba4f3_104 {r : Int32} {σ' : Sg} {l2 : Nat} {l5 : Int32} {l6 : Int32} {σ : Sg} (h : DJ6_getChars_ba4f3_104 l2 l5 l6 σ = some (r, σ')) : Me σ σ' := by
  unfold DJ6_getChars_ba4f3_104 at h
  by_cases q : l6 = 0
  · rw [if_pos q] at h
    obtain ⟨mz1, mz2⟩ := uJ6_getChars_ba4f3_118 h
    exact ⟨by omega, by omega⟩
  · rw [if_neg q] at h
    obtain ⟨k, h⟩ := chk_s h
    obtain ⟨σ1, e1, h⟩ := wlet_s h
    have mσ1 : gM σ1 = gM σ ∧ gZ σ1 = gZ σ := by rw [e1]; exact ⟨rfl, rfl⟩
    obtain ⟨mσ1a, mσ1b⟩ := mσ1
    obtain ⟨mz1, mz2⟩ := uJ6_getChars_ba4f3_118 h
    exact ⟨by omega, by omega⟩
theorem tJ6_getChars_ba4f3_104 {r : Int32} {σ' : Sg} (C : Cx E p s m args meth c RJ6 cJ6_getChars_ba4f3 7) (hr : meth.sig.returnType = (some .int)) {l2 : Nat} {l5 : Int32} {l6 : Int32} {σ : Sg} (h : DJ6_getChars_ba4f3_104 l2 l5 l6 σ = some (r, σ')) : Y E p l e (rmA 1 0 0) s m args below meth c (some (.int r)) σ' 0 0 7 0 0 σ 104 [none, none, some (.ref (ad E l2)), none, none, some (.int l5), some (.int l6)] [] := by
  unfold DJ6_getChars_ba4f3_104 at h
  refine x_iload (pc := 104) C dJ6_getChars_ba4f3_104 rfl ?_
  refine x_if_eq (pc := 106) (tgt := 118) C dJ6_getChars_ba4f3_106 (by decide) (fun q => ?_) (fun q => ?_)
  · rw [if_pos q] at h
    exact x_sub (tJ6_getChars_ba4f3_118 C hr h) (xLe_n (xLe_n (xLe_n (xLe_n (xLe_n (xLe_s (xLe_n xLe_0)))))))
  · rw [if_neg q] at h
    refine x_aload_n (pc := 109) C dJ6_getChars_ba4f3_109 rfl rfl ?_
    refine x_iinc (v := -1) (M := [none, none, some _, none, none, some _, some _]) (pc := 110) C dJ6_getChars_ba4f3_110 rfl (by decide) (by decide) rfl ?_
    refine x_iload (pc := 113) C dJ6_getChars_ba4f3_113 rfl ?_
    refine x_bipush (v := 45) (pc := 115) C dJ6_getChars_ba4f3_115 (by decide) ?_
    obtain ⟨k, h⟩ := chk_s h
    obtain ⟨σ1, e1, h⟩ := wlet_s h
    have mσ1 : gM σ1 = gM σ ∧ gZ σ1 = gZ σ := by rw [e1]; exact ⟨rfl, rfl⟩
    obtain ⟨mσ1a, mσ1b⟩ := mσ1
    refine x_dbast (pc := 117) C k dJ6_getChars_ba4f3_117 (x_eq e1 ?_)
    exact x_sub (tJ6_getChars_ba4f3_118 C hr h) (xLe_n (xLe_n (xLe_n (xLe_n (xLe_n (xLe_s (xLe_n xLe_0)))))))
def DJ6_getChars_ba4f3_72 (l0 : Int32) (l2 : Nat) (l5 : Int32) (l6 : Int32) (σ : Sg) : Option (Int32 × Sg) :=
  chk (ckA σ 6 1026 (-l0)) <|
  chk (ckB σ 6 l2 (l5 + (-1 : Int32))) <|
  wlet (wI σ l2 (l5 + (-1 : Int32)).toNatClampNeg (aI σ 1026 (-l0).toNatClampNeg).toInt8.toInt32) fun σ1 =>
  if (-9 : Int32) ≤ l0 then
    DJ6_getChars_ba4f3_104 l2 (l5 + (-1 : Int32)) l6 σ1
  else
    chk (ckA σ1 6 1027 (-l0)) <|
    chk (ckB σ1 6 l2 ((l5 + (-1 : Int32)) + (-1 : Int32))) <|
    wlet (wI σ1 l2 ((l5 + (-1 : Int32)) + (-1 : Int32)).toNatClampNeg (aI σ1 1027 (-l0).toNatClampNeg).toInt8.toInt32) fun σ2 =>
    DJ6_getChars_ba4f3_104 l2 ((l5 + (-1 : Int32)) + (-1 : Int32)) l6 σ2
theorem uJ6_getChars_ba4f3_72 {r : Int32} {σ' : Sg} {l0 : Int32} {l2 : Nat} {l5 : Int32} {l6 : Int32} {σ : Sg} (h : DJ6_getChars_ba4f3_72 l0 l2 l5 l6 σ = some (r, σ')) : Me σ σ' := by
  unfold DJ6_getChars_ba4f3_72 at h
  obtain ⟨k, h⟩ := chk_s h
  obtain ⟨k, h⟩ := chk_s h
  obtain ⟨σ1, e1, h⟩ := wlet_s h
  have mσ1 : gM σ1 = gM σ ∧ gZ σ1 = gZ σ := by rw [e1]; exact ⟨rfl, rfl⟩
  obtain ⟨mσ1a, mσ1b⟩ := mσ1
  by_cases q : (-9 : Int32) ≤ l0
  · rw [if_pos q] at h
    obtain ⟨mz1, mz2⟩ := uJ6_getChars_ba4f3_104 h
    exact ⟨by omega, by omega⟩
  · rw [if_neg q] at h
    obtain ⟨k, h⟩ := chk_s h
    obtain ⟨k, h⟩ := chk_s h
    obtain ⟨σ2, e1, h⟩ := wlet_s h
    have mσ2 : gM σ2 = gM σ1 ∧ gZ σ2 = gZ σ1 := by rw [e1]; exact ⟨rfl, rfl⟩
    obtain ⟨mσ2a, mσ2b⟩ := mσ2
    obtain ⟨mz1, mz2⟩ := uJ6_getChars_ba4f3_104 h
    exact ⟨by omega, by omega⟩
theorem tJ6_getChars_ba4f3_72 {r : Int32} {σ' : Sg} (C : Cx E p s m args meth c RJ6 cJ6_getChars_ba4f3 7) (hr : meth.sig.returnType = (some .int)) {l0 : Int32} {l2 : Nat} {l5 : Int32} {l6 : Int32} {σ : Sg} (h : DJ6_getChars_ba4f3_72 l0 l2 l5 l6 σ = some (r, σ')) : Y E p l e (rmA 1 0 0) s m args below meth c (some (.int r)) σ' 0 0 7 0 0 σ 72 [some (.int l0), none, some (.ref (ad E l2)), none, none, some (.int l5), some (.int l6)] [] := by
  unfold DJ6_getChars_ba4f3_72 at h
  refine x_aload_n (pc := 72) C dJ6_getChars_ba4f3_72 rfl rfl ?_
  refine x_iinc (v := -1) (M := [some _, none, some _, none, none, some _, some _]) (pc := 73) C dJ6_getChars_ba4f3_73 rfl (by decide) (by decide) rfl ?_
  refine x_iload (pc := 76) C dJ6_getChars_ba4f3_76 rfl ?_
  refine x_getD1 (pc := 78) C gJ6_83 dJ6_getChars_ba4f3_78 ?_
  refine x_iload_n (pc := 81) C dJ6_getChars_ba4f3_81 rfl rfl ?_
  refine x_ineg (pc := 82) C dJ6_getChars_ba4f3_82 ?_
  obtain ⟨k, h⟩ := chk_s h
  refine x_dbald (pc := 83) C k dJ6_getChars_ba4f3_83 ?_
  obtain ⟨k, h⟩ := chk_s h
  obtain ⟨σ1, e1, h⟩ := wlet_s h
  have mσ1 : gM σ1 = gM σ ∧ gZ σ1 = gZ σ := by rw [e1]; exact ⟨rfl, rfl⟩
  obtain ⟨mσ1a, mσ1b⟩ := mσ1
  refine x_dbast (pc := 84) C k dJ6_getChars_ba4f3_84 (x_eq e1 ?_)
  refine x_iload_n (pc := 85) C dJ6_getChars_ba4f3_85 rfl rfl ?_
  refine x_bipush (v := -9) (pc := 86) C dJ6_getChars_ba4f3_86 (by decide) ?_
  refine x_icmp_ge (pc := 88) (tgt := 104) C dJ6_getChars_ba4f3_88 (by decide) (fun q => ?_) (fun q => ?_)
  · rw [if_pos q] at h
    exact x_sub (tJ6_getChars_ba4f3_104 C hr h) (xLe_n (xLe_n (xLe_s (xLe_n (xLe_n (xLe_s (xLe_s xLe_0)))))))
  · rw [if_neg q] at h
    refine x_aload_n (pc := 91) C dJ6_getChars_ba4f3_91 rfl rfl ?_
    refine x_iinc (v := -1) (M := [some _, none, some _, none, none, some _, some _]) (pc := 92) C dJ6_getChars_ba4f3_92 rfl (by decide) (by decide) rfl ?_
    refine x_iload (pc := 95) C dJ6_getChars_ba4f3_95 rfl ?_
    refine x_getD10 (pc := 97) C gJ6_87 dJ6_getChars_ba4f3_97 ?_
    refine x_iload_n (pc := 100) C dJ6_getChars_ba4f3_100 rfl rfl ?_
    refine x_ineg (pc := 101) C dJ6_getChars_ba4f3_101 ?_
    obtain ⟨k, h⟩ := chk_s h
    refine x_dbald (pc := 102) C k dJ6_getChars_ba4f3_102 ?_
    obtain ⟨k, h⟩ := chk_s h
    obtain ⟨σ2, e1, h⟩ := wlet_s h
    have mσ2 : gM σ2 = gM σ1 ∧ gZ σ2 = gZ σ1 := by rw [e1]; exact ⟨rfl, rfl⟩
    obtain ⟨mσ2a, mσ2b⟩ := mσ2
    refine x_dbast (pc := 103) C k dJ6_getChars_ba4f3_103 (x_eq e1 ?_)
    exact x_sub (tJ6_getChars_ba4f3_104 C hr h) (xLe_n (xLe_n (xLe_s (xLe_n (xLe_n (xLe_s (xLe_s xLe_0)))))))
def DJ6_getChars_ba4f3_22 : Nat → Int32 → Nat → Int32 → Int32 → Sg → Option (Int32 × Sg)
  | 0, _, _, _, _, _ => none
  | n + 1, l0, l2, l5, l6, σ =>
    if (-100 : Int32) < l0 then
      DJ6_getChars_ba4f3_72 l0 l2 l5 l6 σ
    else
      chk (ckN (100 : Int32)) <|
      chk (ckA σ 6 1026 (((l0 / (100 : Int32)) * (100 : Int32)) - l0)) <|
      chk (ckB σ 6 l2 (l5 + (-1 : Int32))) <|
      wlet (wI σ l2 (l5 + (-1 : Int32)).toNatClampNeg (aI σ 1026 (((l0 / (100 : Int32)) * (100 : Int32)) - l0).toNatClampNeg).toInt8.toInt32) fun σ1 =>
      chk (ckA σ1 6 1027 (((l0 / (100 : Int32)) * (100 : Int32)) - l0)) <|
      chk (ckB σ1 6 l2 ((l5 + (-1 : Int32)) + (-1 : Int32))) <|
      wlet (wI σ1 l2 ((l5 + (-1 : Int32)) + (-1 : Int32)).toNatClampNeg (aI σ1 1027 (((l0 / (100 : Int32)) * (100 : Int32)) - l0).toNatClampNeg).toInt8.toInt32) fun σ2 =>
      DJ6_getChars_ba4f3_22 n (l0 / (100 : Int32)) l2 ((l5 + (-1 : Int32)) + (-1 : Int32)) l6 σ2
theorem uJ6_getChars_ba4f3_22 {r : Int32} {σ' : Sg} : ∀ (n : Nat) (l0 : Int32) (l2 : Nat) (l5 : Int32) (l6 : Int32) (σ : Sg) (h : DJ6_getChars_ba4f3_22 n l0 l2 l5 l6 σ = some (r, σ')), Me σ σ' := by
  intro n
  induction n with
  | zero => intro l0 l2 l5 l6 σ h; cases h
  | succ n ih =>
    intro l0 l2 l5 l6 σ h
    unfold DJ6_getChars_ba4f3_22 at h
    by_cases q : (-100 : Int32) < l0
    · rw [if_pos q] at h
      obtain ⟨mz1, mz2⟩ := uJ6_getChars_ba4f3_72 h
      exact ⟨by omega, by omega⟩
    · rw [if_neg q] at h
      obtain ⟨k, h⟩ := chk_s h
      obtain ⟨k, h⟩ := chk_s h
      obtain ⟨k, h⟩ := chk_s h
      obtain ⟨σ1, e1, h⟩ := wlet_s h
      have mσ1 : gM σ1 = gM σ ∧ gZ σ1 = gZ σ := by rw [e1]; exact ⟨rfl, rfl⟩
      obtain ⟨mσ1a, mσ1b⟩ := mσ1
      obtain ⟨k, h⟩ := chk_s h
      obtain ⟨k, h⟩ := chk_s h
      obtain ⟨σ2, e1, h⟩ := wlet_s h
      have mσ2 : gM σ2 = gM σ1 ∧ gZ σ2 = gZ σ1 := by rw [e1]; exact ⟨rfl, rfl⟩
      obtain ⟨mσ2a, mσ2b⟩ := mσ2
      obtain ⟨mz1, mz2⟩ := ih _ _ _ _ _ h
      exact ⟨by omega, by omega⟩
theorem tJ6_getChars_ba4f3_22 {r : Int32} {σ' : Sg} (C : Cx E p s m args meth c RJ6 cJ6_getChars_ba4f3 7) (hr : meth.sig.returnType = (some .int)) : ∀ (n : Nat) (l0 : Int32) (l2 : Nat) (l5 : Int32) (l6 : Int32) (σ : Sg) (h : DJ6_getChars_ba4f3_22 n l0 l2 l5 l6 σ = some (r, σ')), Y E p l e (rmA 1 0 0) s m args below meth c (some (.int r)) σ' 0 0 7 0 0 σ 22 [some (.int l0), none, some (.ref (ad E l2)), none, none, some (.int l5), some (.int l6)] [] := by
  intro n
  induction n with
  | zero => intro l0 l2 l5 l6 σ h; cases h
  | succ n ih =>
    intro l0 l2 l5 l6 σ h
    unfold DJ6_getChars_ba4f3_22 at h
    refine x_iload_n (pc := 22) C dJ6_getChars_ba4f3_22 rfl rfl ?_
    refine x_bipush (v := -100) (pc := 23) C dJ6_getChars_ba4f3_23 (by decide) ?_
    refine x_icmp_gt (pc := 25) (tgt := 72) C dJ6_getChars_ba4f3_25 (by decide) (fun q => ?_) (fun q => ?_)
    · rw [if_pos q] at h
      exact x_sub (tJ6_getChars_ba4f3_72 C hr h) (xLe_s (xLe_n (xLe_s (xLe_n (xLe_n (xLe_s (xLe_s xLe_0)))))))
    · rw [if_neg q] at h
      refine x_iload_n (pc := 28) C dJ6_getChars_ba4f3_28 rfl rfl ?_
      refine x_bipush (v := 100) (pc := 29) C dJ6_getChars_ba4f3_29 (by decide) ?_
      obtain ⟨k, h⟩ := chk_s h
      refine x_idiv (pc := 31) C dJ6_getChars_ba4f3_31 (ckN_s k) ?_
      refine x_istore_n (M := [some _, none, some _, some _, none, some _, some _]) (pc := 32) C dJ6_getChars_ba4f3_32 rfl (by decide) rfl ?_
      refine x_iload_n (pc := 33) C dJ6_getChars_ba4f3_33 rfl rfl ?_
      refine x_bipush (v := 100) (pc := 34) C dJ6_getChars_ba4f3_34 (by decide) ?_
      refine x_imul (pc := 36) C dJ6_getChars_ba4f3_36 ?_
      refine x_iload_n (pc := 37) C dJ6_getChars_ba4f3_37 rfl rfl ?_
      refine x_isub (pc := 38) C dJ6_getChars_ba4f3_38 ?_
      refine x_istore (M := [some _, none, some _, some _, some _, some _, some _]) (pc := 39) C dJ6_getChars_ba4f3_39 (by decide) rfl ?_
      refine x_iload_n (pc := 41) C dJ6_getChars_ba4f3_41 rfl rfl ?_
      refine x_istore_n (M := [some _, none, some _, some _, some _, some _, some _]) (pc := 42) C dJ6_getChars_ba4f3_42 rfl (by decide) rfl ?_
      refine x_aload_n (pc := 43) C dJ6_getChars_ba4f3_43 rfl rfl ?_
      refine x_iinc (v := -1) (M := [some _, none, some _, some _, some _, some _, some _]) (pc := 44) C dJ6_getChars_ba4f3_44 rfl (by decide) (by decide) rfl ?_
      refine x_iload (pc := 47) C dJ6_getChars_ba4f3_47 rfl ?_
      refine x_getD1 (pc := 49) C gJ6_83 dJ6_getChars_ba4f3_49 ?_
      refine x_iload (pc := 52) C dJ6_getChars_ba4f3_52 rfl ?_
      obtain ⟨k, h⟩ := chk_s h
      refine x_dbald (pc := 54) C k dJ6_getChars_ba4f3_54 ?_
      obtain ⟨k, h⟩ := chk_s h
      obtain ⟨σ1, e1, h⟩ := wlet_s h
      have mσ1 : gM σ1 = gM σ ∧ gZ σ1 = gZ σ := by rw [e1]; exact ⟨rfl, rfl⟩
      obtain ⟨mσ1a, mσ1b⟩ := mσ1
      refine x_dbast (pc := 55) C k dJ6_getChars_ba4f3_55 (x_eq e1 ?_)
      refine x_aload_n (pc := 56) C dJ6_getChars_ba4f3_56 rfl rfl ?_
      refine x_iinc (v := -1) (M := [some _, none, some _, some _, some _, some _, some _]) (pc := 57) C dJ6_getChars_ba4f3_57 rfl (by decide) (by decide) rfl ?_
      refine x_iload (pc := 60) C dJ6_getChars_ba4f3_60 rfl ?_
      refine x_getD10 (pc := 62) C gJ6_87 dJ6_getChars_ba4f3_62 ?_
      refine x_iload (pc := 65) C dJ6_getChars_ba4f3_65 rfl ?_
      obtain ⟨k, h⟩ := chk_s h
      refine x_dbald (pc := 67) C k dJ6_getChars_ba4f3_67 ?_
      obtain ⟨k, h⟩ := chk_s h
      obtain ⟨σ2, e1, h⟩ := wlet_s h
      have mσ2 : gM σ2 = gM σ1 ∧ gZ σ2 = gZ σ1 := by rw [e1]; exact ⟨rfl, rfl⟩
      obtain ⟨mσ2a, mσ2b⟩ := mσ2
      refine x_dbast (pc := 68) C k dJ6_getChars_ba4f3_68 (x_eq e1 ?_)
      refine x_goto (tgt := 22) (pc := 69) C dJ6_getChars_ba4f3_69 (by decide) ?_
      exact x_sub (ih _ _ _ _ _ h) (xLe_s (xLe_n (xLe_s (xLe_n (xLe_n (xLe_s (xLe_s xLe_0)))))))
def DJ6_getChars_ba4f3_12 (l0 : Int32) (l2 : Nat) (l5 : Int32) (s0 : Int32) (σ : Sg) : Option (Int32 × Sg) :=
  if s0 = 0 then
    DJ6_getChars_ba4f3_22 FU (-l0) l2 l5 s0 σ
  else
    DJ6_getChars_ba4f3_22 FU l0 l2 l5 s0 σ
theorem uJ6_getChars_ba4f3_12 {r : Int32} {σ' : Sg} {l0 : Int32} {l2 : Nat} {l5 : Int32} {s0 : Int32} {σ : Sg} (h : DJ6_getChars_ba4f3_12 l0 l2 l5 s0 σ = some (r, σ')) : Me σ σ' := by
  unfold DJ6_getChars_ba4f3_12 at h
  by_cases q : s0 = 0
  · rw [if_pos q] at h
    obtain ⟨mz1, mz2⟩ := uJ6_getChars_ba4f3_22 FU _ _ _ _ _ h
    exact ⟨by omega, by omega⟩
  · rw [if_neg q] at h
    obtain ⟨mz1, mz2⟩ := uJ6_getChars_ba4f3_22 FU _ _ _ _ _ h
    exact ⟨by omega, by omega⟩
theorem tJ6_getChars_ba4f3_12 {r : Int32} {σ' : Sg} (C : Cx E p s m args meth c RJ6 cJ6_getChars_ba4f3 7) (hr : meth.sig.returnType = (some .int)) {l0 : Int32} {l2 : Nat} {l5 : Int32} {s0 : Int32} {σ : Sg} (h : DJ6_getChars_ba4f3_12 l0 l2 l5 s0 σ = some (r, σ')) : Y E p l e (rmA 1 0 0) s m args below meth c (some (.int r)) σ' 0 0 7 0 0 σ 12 [some (.int l0), none, some (.ref (ad E l2)), none, none, some (.int l5), none] [.int s0] := by
  unfold DJ6_getChars_ba4f3_12 at h
  refine x_istore (M := [some _, none, some _, none, none, some _, some _]) (pc := 12) C dJ6_getChars_ba4f3_12 (by decide) rfl ?_
  refine x_iload (pc := 14) C dJ6_getChars_ba4f3_14 rfl ?_
  refine x_if_ne (pc := 16) (tgt := 22) C dJ6_getChars_ba4f3_16 (by decide) (fun q => ?_) (fun q => ?_)
  · rw [if_pos q] at h
    refine x_iload_n (pc := 19) C dJ6_getChars_ba4f3_19 rfl rfl ?_
    refine x_ineg (pc := 20) C dJ6_getChars_ba4f3_20 ?_
    refine x_istore_n (M := [some _, none, some _, none, none, some _, some _]) (pc := 21) C dJ6_getChars_ba4f3_21 rfl (by decide) rfl ?_
    exact x_sub (tJ6_getChars_ba4f3_22 C hr FU _ _ _ _ _ h) (xLe_s (xLe_n (xLe_s (xLe_n (xLe_n (xLe_s (xLe_s xLe_0)))))))
  · rw [if_neg q] at h
    exact x_sub (tJ6_getChars_ba4f3_22 C hr FU _ _ _ _ _ h) (xLe_s (xLe_n (xLe_s (xLe_n (xLe_n (xLe_s (xLe_s xLe_0)))))))
def DJ6_getChars_ba4f3 (l0 : Int32) (l1 : Int32) (l2 : Nat) (σ : Sg) : Option (Int32 × Sg) :=
  if 0 ≤ l0 then
    DJ6_getChars_ba4f3_12 l0 l2 l1 (0 : Int32) σ
  else
    DJ6_getChars_ba4f3_12 l0 l2 l1 (1 : Int32) σ
theorem umJ6_getChars_ba4f3 {l0 : Int32} {l1 : Int32} {l2 : Nat} {σ : Sg} {r : Int32} {σ' : Sg} (h : DJ6_getChars_ba4f3 l0 l1 l2 σ = some (r, σ')) : Me σ σ' := by
  unfold DJ6_getChars_ba4f3 at h
  by_cases q : 0 ≤ l0
  · rw [if_pos q] at h
    obtain ⟨mz1, mz2⟩ := uJ6_getChars_ba4f3_12 h
    exact ⟨by omega, by omega⟩
  · rw [if_neg q] at h
    obtain ⟨mz1, mz2⟩ := uJ6_getChars_ba4f3_12 h
    exact ⟨by omega, by omega⟩
theorem mJ6_getChars_ba4f3 (E : Ev) (l : Launch) {l0 : Int32} {l1 : Int32} {l2 : Nat} {σ : Sg} {r : Int32} {σ' : Sg} (h : DJ6_getChars_ba4f3 l0 l1 l2 σ = some (r, σ')) : Mt E l yJ6_getChars_ba4f3 cJ6_getChars_ba4f3 7 (some .int) 1 0 0 [.int l0, .int l1, .ref (ad E l2)] σ (some (.int r)) σ' := by
  refine Mt.ofX (by decide) (Nat.le_of_ble_eq_true rfl) (L0 := [some (.int l0), some (.int l1), some (.ref (ad E l2)), none, none, none, none]) (xEntN_ok [.int l0, .int l1, .ref (ad E l2)] 7) (fun p e s m args below meth c C hr hn => ?_)
  unfold DJ6_getChars_ba4f3 at h
  refine x_iload_n (pc := 0) C dJ6_getChars_ba4f3_0 rfl rfl ?_
  refine x_istore (M := [some _, some _, some _, none, none, some _, none]) (pc := 1) C dJ6_getChars_ba4f3_1 (by decide) rfl ?_
  refine x_iload_n (pc := 3) C dJ6_getChars_ba4f3_3 rfl rfl ?_
  refine x_if_ge (pc := 4) (tgt := 11) C dJ6_getChars_ba4f3_4 (by decide) (fun q => ?_) (fun q => ?_)
  · rw [if_pos q] at h
    refine x_iconst (v := 0) (pc := 11) C dJ6_getChars_ba4f3_11 (by decide) ?_
    exact x_sub (tJ6_getChars_ba4f3_12 C hr h) (xLe_s (xLe_n (xLe_s (xLe_n (xLe_n (xLe_s (xLe_n xLe_0)))))))
  · rw [if_neg q] at h
    refine x_iconst (v := 1) (pc := 7) C dJ6_getChars_ba4f3_7 (by decide) ?_
    refine x_goto (tgt := 12) (pc := 8) C dJ6_getChars_ba4f3_8 (by decide) ?_
    exact x_sub (tJ6_getChars_ba4f3_12 C hr h) (xLe_s (xLe_n (xLe_s (xLe_n (xLe_n (xLe_s (xLe_n xLe_0)))))))
def DJ5_append_c97b9_17 (l0 : Nat) (l1 : Int32) (l2 : Int32) (l3 : Int32) (σ : Sg) : Option (Nat × Sg) :=
  chk (ckP σ 8 0 l0) <|
  bnd (DJ5_isLatin1_aae02 l0 σ) fun v1 σ2 =>
  if v1 = 0 then
    chk (ckP σ2 8 0 l0) <|
    chk (ckV (gR σ2 l0 0)) <|
    none
  else
    chk (ckP σ2 8 0 l0) <|
    chk (ckV (gR σ2 l0 0)) <|
    bnd (DJ6_getChars_ba4f3 l1 l3 (gR σ2 l0 0) σ2) fun v3 σ4 =>
    chk (ckH σ4 8 l0) <|
    wlet (pI σ4 l0 3 l3) fun σ5 =>
    some (l0, σ5)
theorem uJ5_append_c97b9_17 {r : Nat} {σ' : Sg} {l0 : Nat} {l1 : Int32} {l2 : Int32} {l3 : Int32} {σ : Sg} (h : DJ5_append_c97b9_17 l0 l1 l2 l3 σ = some (r, σ')) : Mo σ σ' := by
  unfold DJ5_append_c97b9_17 at h
  obtain ⟨k, h⟩ := chk_s h
  obtain ⟨v1, σ2, k, h⟩ := bnd_s h
  obtain ⟨mσ2a, mσ2b⟩ := umJ5_isLatin1_aae02 k
  by_cases q : v1 = 0
  · rw [if_pos q] at h
    obtain ⟨k, h⟩ := chk_s h
    obtain ⟨k, h⟩ := chk_s h
    cases h
  · rw [if_neg q] at h
    obtain ⟨k, h⟩ := chk_s h
    obtain ⟨k, h⟩ := chk_s h
    obtain ⟨v3, σ4, k, h⟩ := bnd_s h
    obtain ⟨mσ4a, mσ4b⟩ := umJ6_getChars_ba4f3 k
    obtain ⟨k, h⟩ := chk_s h
    obtain ⟨σ5, e1, h⟩ := wlet_s h
    have mσ5 : gM σ5 = gM σ4 ∧ gZ σ5 = gZ σ4 := by rw [e1]; exact ⟨rfl, rfl⟩
    obtain ⟨mσ5a, mσ5b⟩ := mσ5
    cases h
    exact ⟨by omega, by omega⟩
theorem tJ5_append_c97b9_17 {r : Nat} {σ' : Sg} (C : Cx E p s m args meth c RJ5 cJ5_append_c97b9 4) (hr : meth.sig.returnType = (some (.object "java/lang/AbstractStringBuilder"))) (hR : RR R 5 (c0 + (gM σ' - gM σ0)) (z0 + (gZ σ' - gZ σ0))) {l0 : Nat} {l1 : Int32} {l2 : Int32} {l3 : Int32} {σ : Sg} (hm : Mo σ0 σ) (h : DJ5_append_c97b9_17 l0 l1 l2 l3 σ = some (r, σ')) : X E p l e R s m args below meth c (MQ below (QdX E (some (.ref (ad E r))) σ') args s (c0 + (gM σ' - gM σ0)) (z0 + (gZ σ' - gZ σ0)) (eF E)) 4 (c0 + (gM σ - gM σ0)) (z0 + (gZ σ - gZ σ0)) σ 17 [some (.ref (ad E l0)), some (.int l1), some (.int l2), some (.int l3)] [] := by
  obtain ⟨my1, my2⟩ := uJ5_append_c97b9_17 h
  unfold DJ5_append_c97b9_17 at h
  obtain ⟨hm1, hm2⟩ := hm
  obtain ⟨hR1, hR2, hR3, hR4⟩ := id hR
  refine x_aload_n (pc := 17) C dJ5_append_c97b9_17 rfl rfl ?_
  obtain ⟨k, h⟩ := chk_s h
  have k2 := k
  obtain ⟨v1, σ2, k, h⟩ := bnd_s h
  obtain ⟨mσ2a, mσ2b⟩ := umJ5_isLatin1_aae02 k
  refine x_dcallU1 (pc := 18) C (x := yJ5_isLatin1_aae02) (mJ5_isLatin1_aae02 E l k) cl8 k2 ulJ5_83.1 ulJ5_83.2 uuJ5_isLatin1_aae02.1 uuJ5_isLatin1_aae02.2.1 usel uuJ5_isLatin1_aae02.2.2.1 uuJ5_isLatin1_aae02.2.2.2.1 uuJ5_isLatin1_aae02.2.2.2.2.1 uuJ5_isLatin1_aae02.2.2.2.2.2 rfl rfl (Nat.le_of_ble_eq_true rfl) ⟨(Nat.le_trans (Nat.le_of_ble_eq_true rfl) hR1), (Nat.le_trans (m := 40 * 5) (Nat.le_of_ble_eq_true rfl) hR2), by omega, by omega⟩ dJ5_append_c97b9_18 ?_
  refine x_if_eq (pc := 21) (tgt := 37) C dJ5_append_c97b9_21 (by decide) (fun q => ?_) (fun q => ?_)
  · rw [if_pos q] at h
    refine x_iload_n (pc := 37) C dJ5_append_c97b9_37 rfl rfl ?_
    refine x_iload_n (pc := 38) C dJ5_append_c97b9_38 rfl rfl ?_
    refine x_iload_n (pc := 39) C dJ5_append_c97b9_39 rfl rfl ?_
    refine x_aload_n (pc := 40) C dJ5_append_c97b9_40 rfl rfl ?_
    obtain ⟨k, h⟩ := chk_s h
    have k2 := k
    obtain ⟨k, h⟩ := chk_s h
    refine x_dgetR (pc := 41) C fdJ5_15 rfl k2 k dJ5_append_c97b9_41 ?_
    cases h
  · rw [if_neg q] at h
    refine x_iload_n (pc := 24) C dJ5_append_c97b9_24 rfl rfl ?_
    refine x_iload_n (pc := 25) C dJ5_append_c97b9_25 rfl rfl ?_
    refine x_aload_n (pc := 26) C dJ5_append_c97b9_26 rfl rfl ?_
    obtain ⟨k, h⟩ := chk_s h
    have k2 := k
    obtain ⟨k, h⟩ := chk_s h
    refine x_dgetR (pc := 27) C fdJ5_15 rfl k2 k dJ5_append_c97b9_27 ?_
    obtain ⟨v3, σ4, k, h⟩ := bnd_s h
    obtain ⟨mσ4a, mσ4b⟩ := umJ6_getChars_ba4f3 k
    refine x_callS1 (pc := 30) C (mJ6_getChars_ba4f3 E l k) cJ5_248 zJ6_getChars_ba4f3 rfl rfl (Nat.le_of_ble_eq_true rfl) ⟨(Nat.le_trans (Nat.le_of_ble_eq_true rfl) hR1), (Nat.le_trans (m := 40 * 5) (Nat.le_of_ble_eq_true rfl) hR2), by omega, by omega⟩ dJ5_append_c97b9_30 ?_
    refine x_pop (pc := 33) C dJ5_append_c97b9_33 rfl ?_
    refine x_goto (tgt := 48) (pc := 34) C dJ5_append_c97b9_34 (by decide) ?_
    refine x_aload_n (pc := 48) C dJ5_append_c97b9_48 rfl rfl ?_
    refine x_iload_n (pc := 49) C dJ5_append_c97b9_49 rfl rfl ?_
    obtain ⟨k, h⟩ := chk_s h
    obtain ⟨σ5, e1, h⟩ := wlet_s h
    have mσ5 : gM σ5 = gM σ4 ∧ gZ σ5 = gZ σ4 := by rw [e1]; exact ⟨rfl, rfl⟩
    obtain ⟨mσ5a, mσ5b⟩ := mσ5
    refine x_dputI (pc := 50) C pdJ5_79 rfl k dJ5_append_c97b9_50 (x_eq e1 ?_)
    refine x_aload_n (pc := 53) C dJ5_append_c97b9_53 rfl rfl ?_
    cases h
    exact x_wide (by omega) (by omega) (x_aret C hr (Or.inl ⟨_, rfl⟩) dJ5_append_c97b9_54)
def DJ5_append_c97b9 (l0 : Nat) (l1 : Int32) (σ : Sg) : Option (Nat × Sg) :=
  chk (ckP σ 8 3 l0) <|
  bnd (DJ6_stringSize_0f7a4 l1 σ) fun v1 σ2 =>
  chk (ckP σ2 8 0 l0) <|
  bnd (DJ5_ensureCapacityInternal_d00df l0 ((gI σ l0 3) + v1) σ2) fun _ σ3 =>
  DJ5_append_c97b9_17 l0 l1 (gI σ l0 3) ((gI σ l0 3) + v1) σ3
theorem umJ5_append_c97b9 {l0 : Nat} {l1 : Int32} {σ : Sg} {r : Nat} {σ' : Sg} (h : DJ5_append_c97b9 l0 l1 σ = some (r, σ')) : Mo σ σ' := by
  unfold DJ5_append_c97b9 at h
  obtain ⟨k, h⟩ := chk_s h
  obtain ⟨v1, σ2, k, h⟩ := bnd_s h
  obtain ⟨mσ2a, mσ2b⟩ := umJ6_stringSize_0f7a4 k
  obtain ⟨k, h⟩ := chk_s h
  obtain ⟨u0, σ3, k, h⟩ := bnd_s h
  obtain ⟨mσ3a, mσ3b⟩ := umJ5_ensureCapacityInternal_d00df k
  obtain ⟨mz1, mz2⟩ := uJ5_append_c97b9_17 h
  exact ⟨by omega, by omega⟩
theorem tqJ5_append_c97b9 {r : Nat} {σ' : Sg} (C : Cx E p s m args meth c RJ5 cJ5_append_c97b9 4) (hr : meth.sig.returnType = (some (.object "java/lang/AbstractStringBuilder"))) (hR : RR R 5 (c0 + (gM σ' - gM σ0)) (z0 + (gZ σ' - gZ σ0))) {l0 : Nat} {l1 : Int32} {σ : Sg} (hm : Mo σ0 σ) (h : DJ5_append_c97b9 l0 l1 σ = some (r, σ')) : X E p l e R s m args below meth c (MQ below (QdX E (some (.ref (ad E r))) σ') args s (c0 + (gM σ' - gM σ0)) (z0 + (gZ σ' - gZ σ0)) (eF E)) 4 (c0 + (gM σ - gM σ0)) (z0 + (gZ σ - gZ σ0)) σ 0 [some (.ref (ad E l0)), some (.int l1), none, none] [] := by
  obtain ⟨my1, my2⟩ := umJ5_append_c97b9 h
  unfold DJ5_append_c97b9 at h
  obtain ⟨hm1, hm2⟩ := hm
  obtain ⟨hR1, hR2, hR3, hR4⟩ := id hR
  refine x_aload_n (pc := 0) C dJ5_append_c97b9_0 rfl rfl ?_
  obtain ⟨k, h⟩ := chk_s h
  refine x_dgetI (pc := 1) C fdJ5_79 rfl k dJ5_append_c97b9_1 ?_
  refine x_istore_n (M := [some _, some _, some _, none]) (pc := 4) C dJ5_append_c97b9_4 rfl (by decide) rfl ?_
  refine x_iload_n (pc := 5) C dJ5_append_c97b9_5 rfl rfl ?_
  refine x_iload_n (pc := 6) C dJ5_append_c97b9_6 rfl rfl ?_
  obtain ⟨v1, σ2, k, h⟩ := bnd_s h
  obtain ⟨mσ2a, mσ2b⟩ := umJ6_stringSize_0f7a4 k
  refine x_callS1 (pc := 7) C (mJ6_stringSize_0f7a4 E l k) cJ5_245 zJ6_stringSize_0f7a4 rfl rfl (Nat.le_of_ble_eq_true rfl) ⟨(Nat.le_trans (Nat.le_of_ble_eq_true rfl) hR1), (Nat.le_trans (m := 40 * 5) (Nat.le_of_ble_eq_true rfl) hR2), by omega, by omega⟩ dJ5_append_c97b9_7 ?_
  refine x_iadd (pc := 10) C dJ5_append_c97b9_10 ?_
  refine x_istore_n (M := [some _, some _, some _, some _]) (pc := 11) C dJ5_append_c97b9_11 rfl (by decide) rfl ?_
  refine x_aload_n (pc := 12) C dJ5_append_c97b9_12 rfl rfl ?_
  refine x_iload_n (pc := 13) C dJ5_append_c97b9_13 rfl rfl ?_
  obtain ⟨k, h⟩ := chk_s h
  have k2 := k
  obtain ⟨u0, σ3, k, h⟩ := bnd_s h
  obtain ⟨mσ3a, mσ3b⟩ := umJ5_ensureCapacityInternal_d00df k
  obtain ⟨mz1, mz2⟩ := uJ5_append_c97b9_17 h
  refine x_dcallU0 (pc := 14) C (x := yJ5_ensureCapacityInternal_d00df) (mJ5_ensureCapacityInternal_d00df E l k) cl8 k2 ulJ5_100.1 ulJ5_100.2 uuJ5_ensureCapacityInternal_d00df.1 uuJ5_ensureCapacityInternal_d00df.2.1 usel uuJ5_ensureCapacityInternal_d00df.2.2.1 uuJ5_ensureCapacityInternal_d00df.2.2.2.1 uuJ5_ensureCapacityInternal_d00df.2.2.2.2.1 uuJ5_ensureCapacityInternal_d00df.2.2.2.2.2 rfl rfl (Nat.le_of_ble_eq_true rfl) ⟨(Nat.le_trans (Nat.le_of_ble_eq_true rfl) hR1), (Nat.le_trans (m := 40 * 5) (Nat.le_of_ble_eq_true rfl) hR2), by omega, by omega⟩ dJ5_append_c97b9_14 ?_
  exact x_sub (x_wide (by omega) (by omega) (tJ5_append_c97b9_17 C hr hR ⟨by omega, by omega⟩ h)) (xLe_s (xLe_s (xLe_s (xLe_s xLe_0))))
theorem tmJ5_append_c97b9 {r : Nat} {σ' : Sg} (C : Cx E p s m args meth c RJ5 cJ5_append_c97b9 4) (hr : meth.sig.returnType = (some (.object "java/lang/AbstractStringBuilder"))) {l0 : Nat} {l1 : Int32} {σ : Sg} (h : DJ5_append_c97b9 l0 l1 σ = some (r, σ')) : X E p l e (rmA 5 (gM σ' - gM σ) (gZ σ' - gZ σ)) s m args below meth c (MQ below (QdX E (some (.ref (ad E r))) σ') args s (gM σ' - gM σ) (gZ σ' - gZ σ) (eF E)) 4 0 0 σ 0 [some (.ref (ad E l0)), some (.int l1), none, none] [] := by
  have hR : RR (rmA 5 (gM σ' - gM σ) (gZ σ' - gZ σ)) 5 (0 + (gM σ' - gM σ)) (0 + (gZ σ' - gZ σ)) := ⟨Nat.le_refl _, Nat.le_refl _, Nat.le_of_eq (Nat.zero_add _), Nat.le_of_eq (Nat.zero_add _)⟩
  have hq := tqJ5_append_c97b9 (e := e) (l := l) (below := below) (c0 := 0) (z0 := 0) (σ0 := σ) C hr hR ⟨Nat.le_refl _, Nat.le_refl _⟩ h
  simp only [Nat.zero_add, Nat.sub_self] at hq
  exact hq
theorem mJ5_append_c97b9 (E : Ev) (l : Launch) {l0 : Nat} {l1 : Int32} {σ : Sg} {r : Nat} {σ' : Sg} (h : DJ5_append_c97b9 l0 l1 σ = some (r, σ')) : Mt E l yJ5_append_c97b9 cJ5_append_c97b9 4 (some (.object "java/lang/AbstractStringBuilder")) 5 (gM σ' - gM σ) (gZ σ' - gZ σ) [.ref (ad E l0), .int l1] σ (some (.ref (ad E r))) σ' := by
  refine Mt.ofX (by decide) (Nat.le_of_ble_eq_true rfl) (L0 := [some (.ref (ad E l0)), some (.int l1), none, none]) (xEntN_ok [.ref (ad E l0), .int l1] 4) (fun p e s m args below meth c C hr hn => ?_)
  refine (?_ : X E p l e (rmA 5 (gM σ' - gM σ) (gZ σ' - gZ σ)) s m args below meth c (MQ below (QdX E (some (.ref (ad E r))) σ') args s (gM σ' - gM σ) (gZ σ' - gZ σ) (eF E)) 4 0 0 σ 0 [some (.ref (ad E l0)), some (.int l1), none, none] [])
  exact tmJ5_append_c97b9 C hr h
def DJ4_append_bf812_5 (l0 : Nat) (s0 : Nat) (σ : Sg) : Option (Nat × Sg) :=
  some (l0, σ)
theorem uJ4_append_bf812_5 {r : Nat} {σ' : Sg} {l0 : Nat} {s0 : Nat} {σ : Sg} (h : DJ4_append_bf812_5 l0 s0 σ = some (r, σ')) : Mo σ σ' := by
  unfold DJ4_append_bf812_5 at h
  cases h
  exact ⟨by omega, by omega⟩
theorem tJ4_append_bf812_5 {r : Nat} {σ' : Sg} (C : Cx E p s m args meth c RJ4 cJ4_append_bf812 2) (hr : meth.sig.returnType = (some (.object "java/lang/StringBuilder"))) (hR : RR R 6 (c0 + (gM σ' - gM σ0)) (z0 + (gZ σ' - gZ σ0))) {l0 : Nat} {s0 : Nat} {σ : Sg} (hm : Mo σ0 σ) (h : DJ4_append_bf812_5 l0 s0 σ = some (r, σ')) : X E p l e R s m args below meth c (MQ below (QdX E (some (.ref (ad E r))) σ') args s (c0 + (gM σ' - gM σ0)) (z0 + (gZ σ' - gZ σ0)) (eF E)) 2 (c0 + (gM σ - gM σ0)) (z0 + (gZ σ - gZ σ0)) σ 5 [some (.ref (ad E l0)), none] [.ref (ad E s0)] := by
  obtain ⟨my1, my2⟩ := uJ4_append_bf812_5 h
  unfold DJ4_append_bf812_5 at h
  obtain ⟨hm1, hm2⟩ := hm
  obtain ⟨hR1, hR2, hR3, hR4⟩ := id hR
  refine x_pop (pc := 5) C dJ4_append_bf812_5 rfl ?_
  refine x_aload_n (pc := 6) C dJ4_append_bf812_6 rfl rfl ?_
  cases h
  exact x_wide (by omega) (by omega) (x_aret C hr (Or.inl ⟨_, rfl⟩) dJ4_append_bf812_7)
def DJ4_append_bf812 (l0 : Nat) (l1 : Int32) (σ : Sg) : Option (Nat × Sg) :=
  chk (ckP σ 8 0 l0) <|
  bnd (DJ5_append_c97b9 l0 l1 σ) fun v1 σ2 =>
  DJ4_append_bf812_5 l0 v1 σ2
theorem umJ4_append_bf812 {l0 : Nat} {l1 : Int32} {σ : Sg} {r : Nat} {σ' : Sg} (h : DJ4_append_bf812 l0 l1 σ = some (r, σ')) : Mo σ σ' := by
  unfold DJ4_append_bf812 at h
  obtain ⟨k, h⟩ := chk_s h
  obtain ⟨v1, σ2, k, h⟩ := bnd_s h
  obtain ⟨mσ2a, mσ2b⟩ := umJ5_append_c97b9 k
  obtain ⟨mz1, mz2⟩ := uJ4_append_bf812_5 h
  exact ⟨by omega, by omega⟩
theorem tqJ4_append_bf812 {r : Nat} {σ' : Sg} (C : Cx E p s m args meth c RJ4 cJ4_append_bf812 2) (hr : meth.sig.returnType = (some (.object "java/lang/StringBuilder"))) (hR : RR R 6 (c0 + (gM σ' - gM σ0)) (z0 + (gZ σ' - gZ σ0))) {l0 : Nat} {l1 : Int32} {σ : Sg} (hm : Mo σ0 σ) (h : DJ4_append_bf812 l0 l1 σ = some (r, σ')) : X E p l e R s m args below meth c (MQ below (QdX E (some (.ref (ad E r))) σ') args s (c0 + (gM σ' - gM σ0)) (z0 + (gZ σ' - gZ σ0)) (eF E)) 2 (c0 + (gM σ - gM σ0)) (z0 + (gZ σ - gZ σ0)) σ 0 [some (.ref (ad E l0)), some (.int l1)] [] := by
  obtain ⟨my1, my2⟩ := umJ4_append_bf812 h
  unfold DJ4_append_bf812 at h
  obtain ⟨hm1, hm2⟩ := hm
  obtain ⟨hR1, hR2, hR3, hR4⟩ := id hR
  refine x_aload_n (pc := 0) C dJ4_append_bf812_0 rfl rfl ?_
  refine x_iload_n (pc := 1) C dJ4_append_bf812_1 rfl rfl ?_
  obtain ⟨k, h⟩ := chk_s h
  have k2 := k
  obtain ⟨v1, σ2, k, h⟩ := bnd_s h
  obtain ⟨mσ2a, mσ2b⟩ := umJ5_append_c97b9 k
  obtain ⟨mz1, mz2⟩ := uJ4_append_bf812_5 h
  refine x_dcallSU1 (pc := 2) C (mJ5_append_c97b9 E l k) cl8 k2 suJ4_53 rfl rfl (Nat.le_of_ble_eq_true rfl) ⟨(Nat.le_trans (Nat.le_of_ble_eq_true rfl) hR1), (Nat.le_trans (m := 40 * 6) (Nat.le_of_ble_eq_true rfl) hR2), by omega, by omega⟩ dJ4_append_bf812_2 ?_
  exact x_sub (x_wide (by omega) (by omega) (tJ4_append_bf812_5 C hr hR ⟨by omega, by omega⟩ h)) (xLe_s (xLe_n xLe_0))
theorem tmJ4_append_bf812 {r : Nat} {σ' : Sg} (C : Cx E p s m args meth c RJ4 cJ4_append_bf812 2) (hr : meth.sig.returnType = (some (.object "java/lang/StringBuilder"))) {l0 : Nat} {l1 : Int32} {σ : Sg} (h : DJ4_append_bf812 l0 l1 σ = some (r, σ')) : X E p l e (rmA 6 (gM σ' - gM σ) (gZ σ' - gZ σ)) s m args below meth c (MQ below (QdX E (some (.ref (ad E r))) σ') args s (gM σ' - gM σ) (gZ σ' - gZ σ) (eF E)) 2 0 0 σ 0 [some (.ref (ad E l0)), some (.int l1)] [] := by
  have hR : RR (rmA 6 (gM σ' - gM σ) (gZ σ' - gZ σ)) 6 (0 + (gM σ' - gM σ)) (0 + (gZ σ' - gZ σ)) := ⟨Nat.le_refl _, Nat.le_refl _, Nat.le_of_eq (Nat.zero_add _), Nat.le_of_eq (Nat.zero_add _)⟩
  have hq := tqJ4_append_bf812 (e := e) (l := l) (below := below) (c0 := 0) (z0 := 0) (σ0 := σ) C hr hR ⟨Nat.le_refl _, Nat.le_refl _⟩ h
  simp only [Nat.zero_add, Nat.sub_self] at hq
  exact hq
theorem mJ4_append_bf812 (E : Ev) (l : Launch) {l0 : Nat} {l1 : Int32} {σ : Sg} {r : Nat} {σ' : Sg} (h : DJ4_append_bf812 l0 l1 σ = some (r, σ')) : Mt E l yJ4_append_bf812 cJ4_append_bf812 2 (some (.object "java/lang/StringBuilder")) 6 (gM σ' - gM σ) (gZ σ' - gZ σ) [.ref (ad E l0), .int l1] σ (some (.ref (ad E r))) σ' := by
  refine Mt.ofX (by decide) (Nat.le_of_ble_eq_true rfl) (L0 := [some (.ref (ad E l0)), some (.int l1)]) (xEntN_ok [.ref (ad E l0), .int l1] 2) (fun p e s m args below meth c C hr hn => ?_)
  refine (?_ : X E p l e (rmA 6 (gM σ' - gM σ) (gZ σ' - gZ σ)) s m args below meth c (MQ below (QdX E (some (.ref (ad E r))) σ') args s (gM σ' - gM σ) (gZ σ' - gZ σ) (eF E)) 2 0 0 σ 0 [some (.ref (ad E l0)), some (.int l1)] [])
  exact tmJ4_append_bf812 C hr h
def DJ5_getValue_6d5f1 (l0 : Nat) (σ : Sg) : Option (Nat × Sg) :=
  chk (ckP σ 8 0 l0) <|
  chk (ckV (gR σ l0 0)) <|
  some ((gR σ l0 0), σ)
theorem umJ5_getValue_6d5f1 {l0 : Nat} {σ : Sg} {r : Nat} {σ' : Sg} (h : DJ5_getValue_6d5f1 l0 σ = some (r, σ')) : Me σ σ' := by
  unfold DJ5_getValue_6d5f1 at h
  obtain ⟨k, h⟩ := chk_s h
  obtain ⟨k, h⟩ := chk_s h
  cases h
  exact ⟨by omega, by omega⟩
theorem mJ5_getValue_6d5f1 (E : Ev) (l : Launch) {l0 : Nat} {σ : Sg} {r : Nat} {σ' : Sg} (h : DJ5_getValue_6d5f1 l0 σ = some (r, σ')) : Mt E l yJ5_getValue_6d5f1 cJ5_getValue_6d5f1 1 (some (.array .byte)) 1 0 0 [.ref (ad E l0)] σ (some (.ref (ad E r))) σ' := by
  refine Mt.ofX (by decide) (Nat.le_of_ble_eq_true rfl) (L0 := [some (.ref (ad E l0))]) (xEntN_ok [.ref (ad E l0)] 1) (fun p e s m args below meth c C hr hn => ?_)
  unfold DJ5_getValue_6d5f1 at h
  refine x_aload_n (pc := 0) C dJ5_getValue_6d5f1_0 rfl rfl ?_
  obtain ⟨k, h⟩ := chk_s h
  have k2 := k
  obtain ⟨k, h⟩ := chk_s h
  refine x_dgetR (pc := 1) C fdJ5_15 rfl k2 k dJ5_getValue_6d5f1_1 ?_
  cases h
  exact x_aret C hr (Or.inr ⟨_, rfl⟩) dJ5_getValue_6d5f1_4
def DJ5_length_8abf5 (l0 : Nat) (σ : Sg) : Option (Int32 × Sg) :=
  chk (ckP σ 8 3 l0) <|
  some ((gI σ l0 3), σ)
theorem umJ5_length_8abf5 {l0 : Nat} {σ : Sg} {r : Int32} {σ' : Sg} (h : DJ5_length_8abf5 l0 σ = some (r, σ')) : Me σ σ' := by
  unfold DJ5_length_8abf5 at h
  obtain ⟨k, h⟩ := chk_s h
  cases h
  exact ⟨by omega, by omega⟩
theorem mJ5_length_8abf5 (E : Ev) (l : Launch) {l0 : Nat} {σ : Sg} {r : Int32} {σ' : Sg} (h : DJ5_length_8abf5 l0 σ = some (r, σ')) : Mt E l yJ5_length_8abf5 cJ5_length_8abf5 1 (some .int) 1 0 0 [.ref (ad E l0)] σ (some (.int r)) σ' := by
  refine Mt.ofX (by decide) (Nat.le_of_ble_eq_true rfl) (L0 := [some (.ref (ad E l0))]) (xEntN_ok [.ref (ad E l0)] 1) (fun p e s m args below meth c C hr hn => ?_)
  unfold DJ5_length_8abf5 at h
  refine x_aload_n (pc := 0) C dJ5_length_8abf5_0 rfl rfl ?_
  obtain ⟨k, h⟩ := chk_s h
  refine x_dgetI (pc := 1) C fdJ5_79 rfl k dJ5_length_8abf5_1 ?_
  cases h
  exact x_iret C hr dJ5_length_8abf5_4
def DJ4_length_8abf5 (l0 : Nat) (σ : Sg) : Option (Int32 × Sg) :=
  chk (ckP σ 8 0 l0) <|
  bnd (DJ5_length_8abf5 l0 σ) fun v1 σ2 =>
  some (v1, σ2)
theorem umJ4_length_8abf5 {l0 : Nat} {σ : Sg} {r : Int32} {σ' : Sg} (h : DJ4_length_8abf5 l0 σ = some (r, σ')) : Me σ σ' := by
  unfold DJ4_length_8abf5 at h
  obtain ⟨k, h⟩ := chk_s h
  obtain ⟨v1, σ2, k, h⟩ := bnd_s h
  obtain ⟨mσ2a, mσ2b⟩ := umJ5_length_8abf5 k
  cases h
  exact ⟨by omega, by omega⟩
theorem mJ4_length_8abf5 (E : Ev) (l : Launch) {l0 : Nat} {σ : Sg} {r : Int32} {σ' : Sg} (h : DJ4_length_8abf5 l0 σ = some (r, σ')) : Mt E l yJ4_length_8abf5 cJ4_length_8abf5 1 (some .int) 2 0 0 [.ref (ad E l0)] σ (some (.int r)) σ' := by
  refine Mt.ofX (by decide) (Nat.le_of_ble_eq_true rfl) (L0 := [some (.ref (ad E l0))]) (xEntN_ok [.ref (ad E l0)] 1) (fun p e s m args below meth c C hr hn => ?_)
  unfold DJ4_length_8abf5 at h
  refine x_aload_n (pc := 0) C dJ4_length_8abf5_0 rfl rfl ?_
  obtain ⟨k, h⟩ := chk_s h
  have k2 := k
  obtain ⟨v1, σ2, k, h⟩ := bnd_s h
  obtain ⟨mσ2a, mσ2b⟩ := umJ5_length_8abf5 k
  refine x_dcallSU1 (pc := 1) C (mJ5_length_8abf5 E l k) cl8 k2 suJ4_343 rfl rfl (Nat.le_of_ble_eq_true rfl) ⟨Nat.le_of_ble_eq_true rfl, Nat.le_of_ble_eq_true rfl, Nat.le_of_ble_eq_true rfl, Nat.le_of_ble_eq_true rfl⟩ dJ4_length_8abf5_1 ?_
  cases h
  exact x_iret C hr dJ4_length_8abf5_4
def DJ7_checkLength_df160 (l0 : Int32) (l1 : Int32) (σ : Sg) : Option (Unit × Sg) :=
  if l0 ≤ l1 then
    some ((), σ)
  else
    none
theorem umJ7_checkLength_df160 {l0 : Int32} {l1 : Int32} {σ : Sg} {r : Unit} {σ' : Sg} (h : DJ7_checkLength_df160 l0 l1 σ = some (r, σ')) : Me σ σ' := by
  unfold DJ7_checkLength_df160 at h
  by_cases q : l0 ≤ l1
  · rw [if_pos q] at h
    cases h
    exact ⟨by omega, by omega⟩
  · rw [if_neg q] at h
    cases h
theorem mJ7_checkLength_df160 (E : Ev) (l : Launch) {l0 : Int32} {l1 : Int32} {σ : Sg} {r : Unit} {σ' : Sg} (h : DJ7_checkLength_df160 l0 l1 σ = some (r, σ')) : Mt E l yJ7_checkLength_df160 cJ7_checkLength_df160 2 none 1 0 0 [.int l0, .int l1] σ none σ' := by
  refine Mt.ofX (by decide) (Nat.le_of_ble_eq_true rfl) (L0 := [some (.int l0), some (.int l1)]) (xEntN_ok [.int l0, .int l1] 2) (fun p e s m args below meth c C hr hn => ?_)
  unfold DJ7_checkLength_df160 at h
  refine x_iload_n (pc := 0) C dJ7_checkLength_df160_0 rfl rfl ?_
  refine x_iload_n (pc := 1) C dJ7_checkLength_df160_1 rfl rfl ?_
  refine x_icmp_ge (pc := 2) (tgt := 37) C dJ7_checkLength_df160_2 (by decide) (fun q => ?_) (fun q => ?_)
  · rw [if_pos q] at h
    cases h
    exact x_vret C hr dJ7_checkLength_df160_37
  · rw [if_neg q] at h
    cases h
def DJ7_copyOfRangeByte_39247_12 (l0 : Nat) (l1 : Int32) (l3 : Int32) (s0 : Nat) (σ : Sg) : Option (Nat × Sg) :=
  chk (ckQ σ l0) <|
  chk (ckY σ l0 l1 s0 (0 : Int32) (imin ((nI (gS σ l0).2) - l1) l3)) <|
  wlet (cpB σ l0 l1.toNatClampNeg s0 (0 : Int32).toNatClampNeg (imin ((nI (gS σ l0).2) - l1) l3).toNatClampNeg) fun σ1 =>
  some (s0, σ1)
theorem uJ7_copyOfRangeByte_39247_12 {r : Nat} {σ' : Sg} {l0 : Nat} {l1 : Int32} {l3 : Int32} {s0 : Nat} {σ : Sg} (h : DJ7_copyOfRangeByte_39247_12 l0 l1 l3 s0 σ = some (r, σ')) : Mo σ σ' := by
  unfold DJ7_copyOfRangeByte_39247_12 at h
  obtain ⟨k, h⟩ := chk_s h
  obtain ⟨k, h⟩ := chk_s h
  obtain ⟨σ1, e1, h⟩ := wlet_s h
  have mσ1 : gM σ1 = gM σ ∧ gZ σ1 = gZ σ := by rw [e1]; exact ⟨rfl, rfl⟩
  obtain ⟨mσ1a, mσ1b⟩ := mσ1
  cases h
  exact ⟨by omega, by omega⟩
theorem tJ7_copyOfRangeByte_39247_12 {r : Nat} {σ' : Sg} (C : Cx E p s m args meth c RJ7 cJ7_copyOfRangeByte_39247 5) (hr : meth.sig.returnType = (some (.array .byte))) (hR : RR R 2 (c0 + (gM σ' - gM σ0)) (z0 + (gZ σ' - gZ σ0))) {l0 : Nat} {l1 : Int32} {l3 : Int32} {s0 : Nat} {σ : Sg} (hm : Mo σ0 σ) (h : DJ7_copyOfRangeByte_39247_12 l0 l1 l3 s0 σ = some (r, σ')) : X E p l e R s m args below meth c (MQ below (QdX E (some (.ref (ad E r))) σ') args s (c0 + (gM σ' - gM σ0)) (z0 + (gZ σ' - gZ σ0)) (eF E)) 5 (c0 + (gM σ - gM σ0)) (z0 + (gZ σ - gZ σ0)) σ 12 [some (.ref (ad E l0)), some (.int l1), none, some (.int l3), none] [.ref (ad E s0)] := by
  obtain ⟨my1, my2⟩ := uJ7_copyOfRangeByte_39247_12 h
  unfold DJ7_copyOfRangeByte_39247_12 at h
  obtain ⟨hm1, hm2⟩ := hm
  obtain ⟨hR1, hR2, hR3, hR4⟩ := id hR
  refine x_astore (M := [some _, some _, none, some _, some _]) (pc := 12) C dJ7_copyOfRangeByte_39247_12 (by decide) rfl ?_
  refine x_aload_n (pc := 14) C dJ7_copyOfRangeByte_39247_14 rfl rfl ?_
  refine x_iload_n (pc := 15) C dJ7_copyOfRangeByte_39247_15 rfl rfl ?_
  refine x_aload (pc := 16) C dJ7_copyOfRangeByte_39247_16 rfl ?_
  refine x_iconst (v := 0) (pc := 18) C dJ7_copyOfRangeByte_39247_18 (by decide) ?_
  refine x_aload_n (pc := 19) C dJ7_copyOfRangeByte_39247_19 rfl rfl ?_
  obtain ⟨k, h⟩ := chk_s h
  refine x_dalen (pc := 20) C k dJ7_copyOfRangeByte_39247_20 ?_
  refine x_iload_n (pc := 21) C dJ7_copyOfRangeByte_39247_21 rfl rfl ?_
  refine x_isub (pc := 22) C dJ7_copyOfRangeByte_39247_22 ?_
  refine x_iload_n (pc := 23) C dJ7_copyOfRangeByte_39247_23 rfl rfl ?_
  refine x_mmin (pc := 24) C oJ7_304 mmmin1 mmi mmmin2 ⟨(Nat.le_trans (Nat.le_of_ble_eq_true rfl) hR1), (Nat.le_trans (m := 40 * 2) (Nat.le_of_ble_eq_true rfl) hR2), by omega, by omega⟩ dJ7_copyOfRangeByte_39247_24 ?_
  obtain ⟨k, h⟩ := chk_s h
  obtain ⟨σ1, e1, h⟩ := wlet_s h
  have mσ1 : gM σ1 = gM σ ∧ gZ σ1 = gZ σ := by rw [e1]; exact ⟨rfl, rfl⟩
  obtain ⟨mσ1a, mσ1b⟩ := mσ1
  refine x_acopy (pc := 27) C ayJ7_150 ay1 ay2 ay3 k ⟨(Nat.le_trans (Nat.le_of_ble_eq_true rfl) hR1), (Nat.le_trans (m := 40 * 2) (Nat.le_of_ble_eq_true rfl) hR2)⟩ dJ7_copyOfRangeByte_39247_27 (x_eq e1 ?_)
  refine x_aload (pc := 30) C dJ7_copyOfRangeByte_39247_30 rfl ?_
  cases h
  exact x_wide (by omega) (by omega) (x_aret C hr (Or.inr ⟨_, rfl⟩) dJ7_copyOfRangeByte_39247_32)
def DJ7_copyOfRangeByte_39247 (l0 : Nat) (l1 : Int32) (l2 : Int32) (σ : Sg) : Option (Nat × Sg) :=
  bnd (DJ7_checkLength_df160 l1 l2 σ) fun _ σ1 =>
  chk (ckn (l2 - l1)) <|
  chk (ck51 σ1) <|
  wlet (mkD σ1 6 (l2 - l1).toNatClampNeg (l2 - l1).toNatClampNeg) fun σ2 =>
  DJ7_copyOfRangeByte_39247_12 l0 l1 (l2 - l1) (2000 + gM σ1) σ2
theorem umJ7_copyOfRangeByte_39247 {l0 : Nat} {l1 : Int32} {l2 : Int32} {σ : Sg} {r : Nat} {σ' : Sg} (h : DJ7_copyOfRangeByte_39247 l0 l1 l2 σ = some (r, σ')) : Mo σ σ' := by
  unfold DJ7_copyOfRangeByte_39247 at h
  obtain ⟨u0, σ1, k, h⟩ := bnd_s h
  obtain ⟨mσ1a, mσ1b⟩ := umJ7_checkLength_df160 k
  obtain ⟨kn, h⟩ := chk_s h
  obtain ⟨k5, h⟩ := chk_s h
  obtain ⟨σ2, e1, h⟩ := wlet_s h
  have mσ2 : gM σ2 = gM σ1 + 1 ∧ gZ σ2 = gZ σ1 + (l2 - l1).toNatClampNeg := by rw [e1]; exact ⟨rfl, rfl⟩
  obtain ⟨mσ2a, mσ2b⟩ := mσ2
  obtain ⟨mz1, mz2⟩ := uJ7_copyOfRangeByte_39247_12 h
  exact ⟨by omega, by omega⟩
theorem tqJ7_copyOfRangeByte_39247 {r : Nat} {σ' : Sg} (C : Cx E p s m args meth c RJ7 cJ7_copyOfRangeByte_39247 5) (hr : meth.sig.returnType = (some (.array .byte))) (hR : RR R 2 (c0 + (gM σ' - gM σ0)) (z0 + (gZ σ' - gZ σ0))) {l0 : Nat} {l1 : Int32} {l2 : Int32} {σ : Sg} (hm : Mo σ0 σ) (h : DJ7_copyOfRangeByte_39247 l0 l1 l2 σ = some (r, σ')) : X E p l e R s m args below meth c (MQ below (QdX E (some (.ref (ad E r))) σ') args s (c0 + (gM σ' - gM σ0)) (z0 + (gZ σ' - gZ σ0)) (eF E)) 5 (c0 + (gM σ - gM σ0)) (z0 + (gZ σ - gZ σ0)) σ 0 [some (.ref (ad E l0)), some (.int l1), some (.int l2), none, none] [] := by
  obtain ⟨my1, my2⟩ := umJ7_copyOfRangeByte_39247 h
  unfold DJ7_copyOfRangeByte_39247 at h
  obtain ⟨hm1, hm2⟩ := hm
  obtain ⟨hR1, hR2, hR3, hR4⟩ := id hR
  refine x_iload_n (pc := 0) C dJ7_copyOfRangeByte_39247_0 rfl rfl ?_
  refine x_iload_n (pc := 1) C dJ7_copyOfRangeByte_39247_1 rfl rfl ?_
  obtain ⟨u0, σ1, k, h⟩ := bnd_s h
  obtain ⟨mσ1a, mσ1b⟩ := umJ7_checkLength_df160 k
  refine x_callS0 (pc := 2) C (mJ7_checkLength_df160 E l k) cJ7_343 zJ7_checkLength_df160 rfl rfl (Nat.le_of_ble_eq_true rfl) ⟨(Nat.le_trans (Nat.le_of_ble_eq_true rfl) hR1), (Nat.le_trans (m := 40 * 2) (Nat.le_of_ble_eq_true rfl) hR2), by omega, by omega⟩ dJ7_copyOfRangeByte_39247_2 ?_
  refine x_iload_n (pc := 5) C dJ7_copyOfRangeByte_39247_5 rfl rfl ?_
  refine x_iload_n (pc := 6) C dJ7_copyOfRangeByte_39247_6 rfl rfl ?_
  refine x_isub (pc := 7) C dJ7_copyOfRangeByte_39247_7 ?_
  refine x_istore_n (M := [some _, some _, some _, some _, none]) (pc := 8) C dJ7_copyOfRangeByte_39247_8 rfl (by decide) rfl ?_
  refine x_iload_n (pc := 9) C dJ7_copyOfRangeByte_39247_9 rfl rfl ?_
  obtain ⟨kn, h⟩ := chk_s h
  obtain ⟨k5, h⟩ := chk_s h
  obtain ⟨σ2, e1, h⟩ := wlet_s h
  have mσ2 : gM σ2 = gM σ1 + 1 ∧ gZ σ2 = gZ σ1 + (l2 - l1).toNatClampNeg := by rw [e1]; exact ⟨rfl, rfl⟩
  obtain ⟨mσ2a, mσ2b⟩ := mσ2
  obtain ⟨mz1, mz2⟩ := uJ7_copyOfRangeByte_39247_12 h
  refine x_dnewB (pc := 10) C aaB kn k5 ⟨by omega, by omega⟩ dJ7_copyOfRangeByte_39247_10 (x_eq e1 ?_)
  exact x_sub (x_wide (by omega) (by omega) (tJ7_copyOfRangeByte_39247_12 C hr hR ⟨by omega, by omega⟩ h)) (xLe_s (xLe_s (xLe_n (xLe_s (xLe_n xLe_0)))))
theorem tmJ7_copyOfRangeByte_39247 {r : Nat} {σ' : Sg} (C : Cx E p s m args meth c RJ7 cJ7_copyOfRangeByte_39247 5) (hr : meth.sig.returnType = (some (.array .byte))) {l0 : Nat} {l1 : Int32} {l2 : Int32} {σ : Sg} (h : DJ7_copyOfRangeByte_39247 l0 l1 l2 σ = some (r, σ')) : X E p l e (rmA 2 (gM σ' - gM σ) (gZ σ' - gZ σ)) s m args below meth c (MQ below (QdX E (some (.ref (ad E r))) σ') args s (gM σ' - gM σ) (gZ σ' - gZ σ) (eF E)) 5 0 0 σ 0 [some (.ref (ad E l0)), some (.int l1), some (.int l2), none, none] [] := by
  have hR : RR (rmA 2 (gM σ' - gM σ) (gZ σ' - gZ σ)) 2 (0 + (gM σ' - gM σ)) (0 + (gZ σ' - gZ σ)) := ⟨Nat.le_refl _, Nat.le_refl _, Nat.le_of_eq (Nat.zero_add _), Nat.le_of_eq (Nat.zero_add _)⟩
  have hq := tqJ7_copyOfRangeByte_39247 (e := e) (l := l) (below := below) (c0 := 0) (z0 := 0) (σ0 := σ) C hr hR ⟨Nat.le_refl _, Nat.le_refl _⟩ h
  simp only [Nat.zero_add, Nat.sub_self] at hq
  exact hq
theorem mJ7_copyOfRangeByte_39247 (E : Ev) (l : Launch) {l0 : Nat} {l1 : Int32} {l2 : Int32} {σ : Sg} {r : Nat} {σ' : Sg} (h : DJ7_copyOfRangeByte_39247 l0 l1 l2 σ = some (r, σ')) : Mt E l yJ7_copyOfRangeByte_39247 cJ7_copyOfRangeByte_39247 5 (some (.array .byte)) 2 (gM σ' - gM σ) (gZ σ' - gZ σ) [.ref (ad E l0), .int l1, .int l2] σ (some (.ref (ad E r))) σ' := by
  refine Mt.ofX (by decide) (Nat.le_of_ble_eq_true rfl) (L0 := [some (.ref (ad E l0)), some (.int l1), some (.int l2), none, none]) (xEntN_ok [.ref (ad E l0), .int l1, .int l2] 5) (fun p e s m args below meth c C hr hn => ?_)
  refine (?_ : X E p l e (rmA 2 (gM σ' - gM σ) (gZ σ' - gZ σ)) s m args below meth c (MQ below (QdX E (some (.ref (ad E r))) σ') args s (gM σ' - gM σ) (gZ σ' - gZ σ) (eF E)) 5 0 0 σ 0 [some (.ref (ad E l0)), some (.int l1), some (.int l2), none, none] [])
  exact tmJ7_copyOfRangeByte_39247 C hr h
def DJ7_copyOfRange_39247_16 (s0 : Nat) (σ : Sg) : Option (Nat × Sg) :=
  some (s0, σ)
theorem uJ7_copyOfRange_39247_16 {r : Nat} {σ' : Sg} {s0 : Nat} {σ : Sg} (h : DJ7_copyOfRange_39247_16 s0 σ = some (r, σ')) : Mo σ σ' := by
  unfold DJ7_copyOfRange_39247_16 at h
  cases h
  exact ⟨by omega, by omega⟩
theorem tJ7_copyOfRange_39247_16 {r : Nat} {σ' : Sg} (C : Cx E p s m args meth c RJ7 cJ7_copyOfRange_39247 3) (hr : meth.sig.returnType = (some (.array .byte))) (hR : RR R 3 (c0 + (gM σ' - gM σ0)) (z0 + (gZ σ' - gZ σ0))) {s0 : Nat} {σ : Sg} (hm : Mo σ0 σ) (h : DJ7_copyOfRange_39247_16 s0 σ = some (r, σ')) : X E p l e R s m args below meth c (MQ below (QdX E (some (.ref (ad E r))) σ') args s (c0 + (gM σ' - gM σ0)) (z0 + (gZ σ' - gZ σ0)) (eF E)) 3 (c0 + (gM σ - gM σ0)) (z0 + (gZ σ - gZ σ0)) σ 16 [none, none, none] [.ref (ad E s0)] := by
  obtain ⟨my1, my2⟩ := uJ7_copyOfRange_39247_16 h
  unfold DJ7_copyOfRange_39247_16 at h
  obtain ⟨hm1, hm2⟩ := hm
  obtain ⟨hR1, hR2, hR3, hR4⟩ := id hR
  cases h
  exact x_wide (by omega) (by omega) (x_aret C hr (Or.inr ⟨_, rfl⟩) dJ7_copyOfRange_39247_16)
def DJ7_copyOfRange_39247_10 (l0 : Nat) (l1 : Int32) (l2 : Int32) (σ : Sg) : Option (Nat × Sg) :=
  bnd (DJ7_copyOfRangeByte_39247 l0 l1 l2 σ) fun v1 σ2 =>
  DJ7_copyOfRange_39247_16 v1 σ2
theorem uJ7_copyOfRange_39247_10 {r : Nat} {σ' : Sg} {l0 : Nat} {l1 : Int32} {l2 : Int32} {σ : Sg} (h : DJ7_copyOfRange_39247_10 l0 l1 l2 σ = some (r, σ')) : Mo σ σ' := by
  unfold DJ7_copyOfRange_39247_10 at h
  obtain ⟨v1, σ2, k, h⟩ := bnd_s h
  obtain ⟨mσ2a, mσ2b⟩ := umJ7_copyOfRangeByte_39247 k
  obtain ⟨mz1, mz2⟩ := uJ7_copyOfRange_39247_16 h
  exact ⟨by omega, by omega⟩
theorem tJ7_copyOfRange_39247_10 {r : Nat} {σ' : Sg} (C : Cx E p s m args meth c RJ7 cJ7_copyOfRange_39247 3) (hr : meth.sig.returnType = (some (.array .byte))) (hR : RR R 3 (c0 + (gM σ' - gM σ0)) (z0 + (gZ σ' - gZ σ0))) {l0 : Nat} {l1 : Int32} {l2 : Int32} {σ : Sg} (hm : Mo σ0 σ) (h : DJ7_copyOfRange_39247_10 l0 l1 l2 σ = some (r, σ')) : X E p l e R s m args below meth c (MQ below (QdX E (some (.ref (ad E r))) σ') args s (c0 + (gM σ' - gM σ0)) (z0 + (gZ σ' - gZ σ0)) (eF E)) 3 (c0 + (gM σ - gM σ0)) (z0 + (gZ σ - gZ σ0)) σ 10 [some (.ref (ad E l0)), some (.int l1), some (.int l2)] [] := by
  obtain ⟨my1, my2⟩ := uJ7_copyOfRange_39247_10 h
  unfold DJ7_copyOfRange_39247_10 at h
  obtain ⟨hm1, hm2⟩ := hm
  obtain ⟨hR1, hR2, hR3, hR4⟩ := id hR
  refine x_aload_n (pc := 10) C dJ7_copyOfRange_39247_10 rfl rfl ?_
  refine x_iload_n (pc := 11) C dJ7_copyOfRange_39247_11 rfl rfl ?_
  refine x_iload_n (pc := 12) C dJ7_copyOfRange_39247_12 rfl rfl ?_
  obtain ⟨v1, σ2, k, h⟩ := bnd_s h
  obtain ⟨mσ2a, mσ2b⟩ := umJ7_copyOfRangeByte_39247 k
  obtain ⟨mz1, mz2⟩ := uJ7_copyOfRange_39247_16 h
  refine x_callS1 (pc := 13) C (mJ7_copyOfRangeByte_39247 E l k) cJ7_339 zJ7_copyOfRangeByte_39247 rfl rfl (Nat.le_of_ble_eq_true rfl) ⟨(Nat.le_trans (Nat.le_of_ble_eq_true rfl) hR1), (Nat.le_trans (m := 40 * 3) (Nat.le_of_ble_eq_true rfl) hR2), by omega, by omega⟩ dJ7_copyOfRange_39247_13 ?_
  exact x_sub (x_wide (by omega) (by omega) (tJ7_copyOfRange_39247_16 C hr hR ⟨by omega, by omega⟩ h)) (xLe_n (xLe_n (xLe_n xLe_0)))
def DJ7_copyOfRange_39247_21 (s0 : Nat) (σ : Sg) : Option (Nat × Sg) :=
  chk (ckB6 σ s0) <|
  some (s0, σ)
theorem uJ7_copyOfRange_39247_21 {r : Nat} {σ' : Sg} {s0 : Nat} {σ : Sg} (h : DJ7_copyOfRange_39247_21 s0 σ = some (r, σ')) : Mo σ σ' := by
  unfold DJ7_copyOfRange_39247_21 at h
  obtain ⟨k, h⟩ := chk_s h
  cases h
  exact ⟨by omega, by omega⟩
theorem tJ7_copyOfRange_39247_21 {r : Nat} {σ' : Sg} (C : Cx E p s m args meth c RJ7 cJ7_copyOfRange_39247 3) (hr : meth.sig.returnType = (some (.array .byte))) (hR : RR R 3 (c0 + (gM σ' - gM σ0)) (z0 + (gZ σ' - gZ σ0))) {s0 : Nat} {σ : Sg} (hm : Mo σ0 σ) (h : DJ7_copyOfRange_39247_21 s0 σ = some (r, σ')) : X E p l e R s m args below meth c (MQ below (QdX E (some (.ref (ad E r))) σ') args s (c0 + (gM σ' - gM σ0)) (z0 + (gZ σ' - gZ σ0)) (eF E)) 3 (c0 + (gM σ - gM σ0)) (z0 + (gZ σ - gZ σ0)) σ 21 [none, none, none] [.ref (ad E s0)] := by
  obtain ⟨my1, my2⟩ := uJ7_copyOfRange_39247_21 h
  unfold DJ7_copyOfRange_39247_21 at h
  obtain ⟨hm1, hm2⟩ := hm
  obtain ⟨hR1, hR2, hR3, hR4⟩ := id hR
  obtain ⟨k, h⟩ := chk_s h
  refine x_dcast (pc := 21) C wcJ7_311 k dJ7_copyOfRange_39247_21 ?_
  cases h
  exact x_wide (by omega) (by omega) (x_aret C hr (Or.inr ⟨_, rfl⟩) dJ7_copyOfRange_39247_24)
def DJ7_copyOfRange_39247 (l0 : Nat) (l1 : Int32) (l2 : Int32) (σ : Sg) : Option (Nat × Sg) :=
  if l1 = 0 then
    chk (ckQ σ l0) <|
    if l2 = (nI (gS σ l0).2) then
      chk (ckB6 σ l0) <|
      chk (ck51 σ) <|
      wlet (clD σ l0) fun σ1 =>
      DJ7_copyOfRange_39247_21 (2000 + gM σ) σ1
    else
      DJ7_copyOfRange_39247_10 l0 l1 l2 σ
  else
    DJ7_copyOfRange_39247_10 l0 l1 l2 σ
theorem umJ7_copyOfRange_39247 {l0 : Nat} {l1 : Int32} {l2 : Int32} {σ : Sg} {r : Nat} {σ' : Sg} (h : DJ7_copyOfRange_39247 l0 l1 l2 σ = some (r, σ')) : Mo σ σ' := by
  unfold DJ7_copyOfRange_39247 at h
  by_cases q : l1 = 0
  · rw [if_pos q] at h
    obtain ⟨k, h⟩ := chk_s h
    by_cases q : l2 = (nI (gS σ l0).2)
    · rw [if_pos q] at h
      obtain ⟨kb, h⟩ := chk_s h
      obtain ⟨k5, h⟩ := chk_s h
      obtain ⟨σ1, e1, h⟩ := wlet_s h
      have mσ1 : gM σ1 = gM σ + 1 ∧ gZ σ1 = gZ σ + (gS σ l0).2 := by rw [e1]; exact ⟨rfl, rfl⟩
      obtain ⟨mσ1a, mσ1b⟩ := mσ1
      obtain ⟨mz1, mz2⟩ := uJ7_copyOfRange_39247_21 h
      exact ⟨by omega, by omega⟩
    · rw [if_neg q] at h
      obtain ⟨mz1, mz2⟩ := uJ7_copyOfRange_39247_10 h
      exact ⟨by omega, by omega⟩
  · rw [if_neg q] at h
    obtain ⟨mz1, mz2⟩ := uJ7_copyOfRange_39247_10 h
    exact ⟨by omega, by omega⟩
theorem tqJ7_copyOfRange_39247 {r : Nat} {σ' : Sg} (C : Cx E p s m args meth c RJ7 cJ7_copyOfRange_39247 3) (hr : meth.sig.returnType = (some (.array .byte))) (hR : RR R 3 (c0 + (gM σ' - gM σ0)) (z0 + (gZ σ' - gZ σ0))) {l0 : Nat} {l1 : Int32} {l2 : Int32} {σ : Sg} (hm : Mo σ0 σ) (h : DJ7_copyOfRange_39247 l0 l1 l2 σ = some (r, σ')) : X E p l e R s m args below meth c (MQ below (QdX E (some (.ref (ad E r))) σ') args s (c0 + (gM σ' - gM σ0)) (z0 + (gZ σ' - gZ σ0)) (eF E)) 3 (c0 + (gM σ - gM σ0)) (z0 + (gZ σ - gZ σ0)) σ 0 [some (.ref (ad E l0)), some (.int l1), some (.int l2)] [] := by
  obtain ⟨my1, my2⟩ := umJ7_copyOfRange_39247 h
  unfold DJ7_copyOfRange_39247 at h
  obtain ⟨hm1, hm2⟩ := hm
  obtain ⟨hR1, hR2, hR3, hR4⟩ := id hR
  refine x_iload_n (pc := 0) C dJ7_copyOfRange_39247_0 rfl rfl ?_
  refine x_if_ne (pc := 1) (tgt := 10) C dJ7_copyOfRange_39247_1 (by decide) (fun q => ?_) (fun q => ?_)
  · rw [if_pos q] at h
    refine x_iload_n (pc := 4) C dJ7_copyOfRange_39247_4 rfl rfl ?_
    refine x_aload_n (pc := 5) C dJ7_copyOfRange_39247_5 rfl rfl ?_
    obtain ⟨k, h⟩ := chk_s h
    refine x_dalen (pc := 6) C k dJ7_copyOfRange_39247_6 ?_
    refine x_icmp_eq (pc := 7) (tgt := 17) C dJ7_copyOfRange_39247_7 (by decide) (fun q => ?_) (fun q => ?_)
    · rw [if_pos q] at h
      refine x_aload_n (pc := 17) C dJ7_copyOfRange_39247_17 rfl rfl ?_
      obtain ⟨kb, h⟩ := chk_s h
      obtain ⟨k5, h⟩ := chk_s h
      obtain ⟨σ1, e1, h⟩ := wlet_s h
      have mσ1 : gM σ1 = gM σ + 1 ∧ gZ σ1 = gZ σ + (gS σ l0).2 := by rw [e1]; exact ⟨rfl, rfl⟩
      obtain ⟨mσ1a, mσ1b⟩ := mσ1
      obtain ⟨mz1, mz2⟩ := uJ7_copyOfRange_39247_21 h
      refine x_dclone (pc := 18) C cnJ7_310 cn1 cn2 cn3 cn4 cn5 kb k5 ⟨(Nat.le_trans (Nat.le_of_ble_eq_true rfl) hR1), (Nat.le_trans (m := 40 * 3) (Nat.le_of_ble_eq_true rfl) hR2)⟩ ⟨by omega, by omega⟩ dJ7_copyOfRange_39247_18 (x_eq e1 ?_)
      exact x_sub (x_wide (by omega) (by omega) (tJ7_copyOfRange_39247_21 C hr hR ⟨by omega, by omega⟩ h)) (xLe_n (xLe_n (xLe_n xLe_0)))
    · rw [if_neg q] at h
      exact x_sub (x_wide (by omega) (by omega) (tJ7_copyOfRange_39247_10 C hr hR ⟨by omega, by omega⟩ h)) (xLe_s (xLe_s (xLe_s xLe_0)))
  · rw [if_neg q] at h
    exact x_sub (x_wide (by omega) (by omega) (tJ7_copyOfRange_39247_10 C hr hR ⟨by omega, by omega⟩ h)) (xLe_s (xLe_s (xLe_s xLe_0)))
theorem tmJ7_copyOfRange_39247 {r : Nat} {σ' : Sg} (C : Cx E p s m args meth c RJ7 cJ7_copyOfRange_39247 3) (hr : meth.sig.returnType = (some (.array .byte))) {l0 : Nat} {l1 : Int32} {l2 : Int32} {σ : Sg} (h : DJ7_copyOfRange_39247 l0 l1 l2 σ = some (r, σ')) : X E p l e (rmA 3 (gM σ' - gM σ) (gZ σ' - gZ σ)) s m args below meth c (MQ below (QdX E (some (.ref (ad E r))) σ') args s (gM σ' - gM σ) (gZ σ' - gZ σ) (eF E)) 3 0 0 σ 0 [some (.ref (ad E l0)), some (.int l1), some (.int l2)] [] := by
  have hR : RR (rmA 3 (gM σ' - gM σ) (gZ σ' - gZ σ)) 3 (0 + (gM σ' - gM σ)) (0 + (gZ σ' - gZ σ)) := ⟨Nat.le_refl _, Nat.le_refl _, Nat.le_of_eq (Nat.zero_add _), Nat.le_of_eq (Nat.zero_add _)⟩
  have hq := tqJ7_copyOfRange_39247 (e := e) (l := l) (below := below) (c0 := 0) (z0 := 0) (σ0 := σ) C hr hR ⟨Nat.le_refl _, Nat.le_refl _⟩ h
  simp only [Nat.zero_add, Nat.sub_self] at hq
  exact hq
theorem mJ7_copyOfRange_39247 (E : Ev) (l : Launch) {l0 : Nat} {l1 : Int32} {l2 : Int32} {σ : Sg} {r : Nat} {σ' : Sg} (h : DJ7_copyOfRange_39247 l0 l1 l2 σ = some (r, σ')) : Mt E l yJ7_copyOfRange_39247 cJ7_copyOfRange_39247 3 (some (.array .byte)) 3 (gM σ' - gM σ) (gZ σ' - gZ σ) [.ref (ad E l0), .int l1, .int l2] σ (some (.ref (ad E r))) σ' := by
  refine Mt.ofX (by decide) (Nat.le_of_ble_eq_true rfl) (L0 := [some (.ref (ad E l0)), some (.int l1), some (.int l2)]) (xEntN_ok [.ref (ad E l0), .int l1, .int l2] 3) (fun p e s m args below meth c C hr hn => ?_)
  refine (?_ : X E p l e (rmA 3 (gM σ' - gM σ) (gZ σ' - gZ σ)) s m args below meth c (MQ below (QdX E (some (.ref (ad E r))) σ') args s (gM σ' - gM σ) (gZ σ' - gZ σ) (eF E)) 3 0 0 σ 0 [some (.ref (ad E l0)), some (.int l1), some (.int l2)] [])
  exact tmJ7_copyOfRange_39247 C hr h
def DJ0_init_db425_97 (σ : Sg) : Option (Unit × Sg) :=
  some ((), σ)
theorem uJ0_init_db425_97 {r : Unit} {σ' : Sg} {σ : Sg} (h : DJ0_init_db425_97  σ = some (r, σ')) : Mo σ σ' := by
  unfold DJ0_init_db425_97 at h
  cases h
  exact ⟨by omega, by omega⟩
theorem tJ0_init_db425_97 {r : Unit} {σ' : Sg} (C : Cx E p s m args meth c RJ0 cJ0_init_db425 5) (hr : meth.sig.returnType = none) (hn : meth.name = yJ0_init_db425.name) (hR : RR R 4 (c0 + (gM σ' - gM σ0)) (z0 + (gZ σ' - gZ σ0))) {σ : Sg} (hm : Mo σ0 σ) (h : DJ0_init_db425_97  σ = some (r, σ')) : X E p l e R s m args below meth c (MQ below (QdX E none σ') args s (c0 + (gM σ' - gM σ0)) (z0 + (gZ σ' - gZ σ0)) (eF E)) 5 (c0 + (gM σ - gM σ0)) (z0 + (gZ σ - gZ σ0)) σ 97 [none, none, none, none, none] [] := by
  obtain ⟨my1, my2⟩ := uJ0_init_db425_97 h
  unfold DJ0_init_db425_97 at h
  obtain ⟨hm1, hm2⟩ := hm
  obtain ⟨hR1, hR2, hR3, hR4⟩ := id hR
  cases h
  exact x_wide (by omega) (by omega) (x_vret C hr dJ0_init_db425_97)
def DJ0_init_db425_35 (s0 : Nat) (s1 : Nat) (σ : Sg) : Option (Unit × Sg) :=
  chk (ckH σ 7 s0) <|
  chk (ckV s1) <|
  wlet (pR σ s0 0 s1) fun σ1 =>
  DJ0_init_db425_97 σ1
theorem uJ0_init_db425_35 {r : Unit} {σ' : Sg} {s0 : Nat} {s1 : Nat} {σ : Sg} (h : DJ0_init_db425_35 s0 s1 σ = some (r, σ')) : Mo σ σ' := by
  unfold DJ0_init_db425_35 at h
  obtain ⟨k, h⟩ := chk_s h
  obtain ⟨k, h⟩ := chk_s h
  obtain ⟨σ1, e1, h⟩ := wlet_s h
  have mσ1 : gM σ1 = gM σ ∧ gZ σ1 = gZ σ := by rw [e1]; exact ⟨rfl, rfl⟩
  obtain ⟨mσ1a, mσ1b⟩ := mσ1
  obtain ⟨mz1, mz2⟩ := uJ0_init_db425_97 h
  exact ⟨by omega, by omega⟩
theorem tJ0_init_db425_35 {r : Unit} {σ' : Sg} (C : Cx E p s m args meth c RJ0 cJ0_init_db425 5) (hr : meth.sig.returnType = none) (hn : meth.name = yJ0_init_db425.name) (hR : RR R 4 (c0 + (gM σ' - gM σ0)) (z0 + (gZ σ' - gZ σ0))) {s0 : Nat} {s1 : Nat} {σ : Sg} (hm : Mo σ0 σ) (h : DJ0_init_db425_35 s0 s1 σ = some (r, σ')) : X E p l e R s m args below meth c (MQ below (QdX E none σ') args s (c0 + (gM σ' - gM σ0)) (z0 + (gZ σ' - gZ σ0)) (eF E)) 5 (c0 + (gM σ - gM σ0)) (z0 + (gZ σ - gZ σ0)) σ 35 [none, none, none, none, none] [.ref (ad E s1), .ref (ad E s0)] := by
  obtain ⟨my1, my2⟩ := uJ0_init_db425_35 h
  unfold DJ0_init_db425_35 at h
  obtain ⟨hm1, hm2⟩ := hm
  obtain ⟨hR1, hR2, hR3, hR4⟩ := id hR
  obtain ⟨k, h⟩ := chk_s h
  have k2 := k
  obtain ⟨k, h⟩ := chk_s h
  obtain ⟨σ1, e1, h⟩ := wlet_s h
  have mσ1 : gM σ1 = gM σ ∧ gZ σ1 = gZ σ := by rw [e1]; exact ⟨rfl, rfl⟩
  obtain ⟨mσ1a, mσ1b⟩ := mσ1
  refine x_dputR (pc := 35) C (Or.inr ⟨qJ0_9, hn⟩) (Or.inr ⟨_, rfl⟩) k2 k dJ0_init_db425_35 (x_eq e1 ?_)
  refine x_goto (tgt := 97) (pc := 38) C dJ0_init_db425_38 (by decide) ?_
  exact x_sub (x_wide (by omega) (by omega) (tJ0_init_db425_97 C hr hn hR ⟨by omega, by omega⟩ h)) (xLe_n (xLe_n (xLe_n (xLe_n (xLe_n xLe_0)))))
def DJ0_init_db425_94 (s0 : Nat) (s1 : Nat) (σ : Sg) : Option (Unit × Sg) :=
  chk (ckH σ 7 s0) <|
  chk (ckV s1) <|
  wlet (pR σ s0 0 s1) fun σ1 =>
  DJ0_init_db425_97 σ1
theorem uJ0_init_db425_94 {r : Unit} {σ' : Sg} {s0 : Nat} {s1 : Nat} {σ : Sg} (h : DJ0_init_db425_94 s0 s1 σ = some (r, σ')) : Mo σ σ' := by
  unfold DJ0_init_db425_94 at h
  obtain ⟨k, h⟩ := chk_s h
  obtain ⟨k, h⟩ := chk_s h
  obtain ⟨σ1, e1, h⟩ := wlet_s h
  have mσ1 : gM σ1 = gM σ ∧ gZ σ1 = gZ σ := by rw [e1]; exact ⟨rfl, rfl⟩
  obtain ⟨mσ1a, mσ1b⟩ := mσ1
  obtain ⟨mz1, mz2⟩ := uJ0_init_db425_97 h
  exact ⟨by omega, by omega⟩
theorem tJ0_init_db425_94 {r : Unit} {σ' : Sg} (C : Cx E p s m args meth c RJ0 cJ0_init_db425 5) (hr : meth.sig.returnType = none) (hn : meth.name = yJ0_init_db425.name) (hR : RR R 4 (c0 + (gM σ' - gM σ0)) (z0 + (gZ σ' - gZ σ0))) {s0 : Nat} {s1 : Nat} {σ : Sg} (hm : Mo σ0 σ) (h : DJ0_init_db425_94 s0 s1 σ = some (r, σ')) : X E p l e R s m args below meth c (MQ below (QdX E none σ') args s (c0 + (gM σ' - gM σ0)) (z0 + (gZ σ' - gZ σ0)) (eF E)) 5 (c0 + (gM σ - gM σ0)) (z0 + (gZ σ - gZ σ0)) σ 94 [none, none, none, none, none] [.ref (ad E s1), .ref (ad E s0)] := by
  obtain ⟨my1, my2⟩ := uJ0_init_db425_94 h
  unfold DJ0_init_db425_94 at h
  obtain ⟨hm1, hm2⟩ := hm
  obtain ⟨hR1, hR2, hR3, hR4⟩ := id hR
  obtain ⟨k, h⟩ := chk_s h
  have k2 := k
  obtain ⟨k, h⟩ := chk_s h
  obtain ⟨σ1, e1, h⟩ := wlet_s h
  have mσ1 : gM σ1 = gM σ ∧ gZ σ1 = gZ σ := by rw [e1]; exact ⟨rfl, rfl⟩
  obtain ⟨mσ1a, mσ1b⟩ := mσ1
  refine x_dputR (pc := 94) C (Or.inr ⟨qJ0_9, hn⟩) (Or.inr ⟨_, rfl⟩) k2 k dJ0_init_db425_94 (x_eq e1 ?_)
  exact x_sub (x_wide (by omega) (by omega) (tJ0_init_db425_97 C hr hn hR ⟨by omega, by omega⟩ h)) (xLe_n (xLe_n (xLe_n (xLe_n (xLe_n xLe_0)))))
def DJ0_init_db425_79 (l0 : Nat) (l3 : Nat) (l4 : Int32) (σ : Sg) : Option (Unit × Sg) :=
  chk (ckH σ 7 l0) <|
  chk (ckK (1 : Int32)) <|
  wlet (pI σ l0 1 (1 : Int32)) fun σ1 =>
  bnd (DJ7_copyOfRange_39247 l3 (0 : Int32) (l4 <<< ((1 : Int32) &&& 31)) σ1) fun v2 σ3 =>
  DJ0_init_db425_94 l0 v2 σ3
theorem uJ0_init_db425_79 {r : Unit} {σ' : Sg} {l0 : Nat} {l3 : Nat} {l4 : Int32} {σ : Sg} (h : DJ0_init_db425_79 l0 l3 l4 σ = some (r, σ')) : Mo σ σ' := by
  unfold DJ0_init_db425_79 at h
  obtain ⟨k, h⟩ := chk_s h
  obtain ⟨k, h⟩ := chk_s h
  obtain ⟨σ1, e1, h⟩ := wlet_s h
  have mσ1 : gM σ1 = gM σ ∧ gZ σ1 = gZ σ := by rw [e1]; exact ⟨rfl, rfl⟩
  obtain ⟨mσ1a, mσ1b⟩ := mσ1
  obtain ⟨v2, σ3, k, h⟩ := bnd_s h
  obtain ⟨mσ3a, mσ3b⟩ := umJ7_copyOfRange_39247 k
  obtain ⟨mz1, mz2⟩ := uJ0_init_db425_94 h
  exact ⟨by omega, by omega⟩
theorem tJ0_init_db425_79 {r : Unit} {σ' : Sg} (C : Cx E p s m args meth c RJ0 cJ0_init_db425 5) (hr : meth.sig.returnType = none) (hn : meth.name = yJ0_init_db425.name) (hR : RR R 4 (c0 + (gM σ' - gM σ0)) (z0 + (gZ σ' - gZ σ0))) {l0 : Nat} {l3 : Nat} {l4 : Int32} {σ : Sg} (hm : Mo σ0 σ) (h : DJ0_init_db425_79 l0 l3 l4 σ = some (r, σ')) : X E p l e R s m args below meth c (MQ below (QdX E none σ') args s (c0 + (gM σ' - gM σ0)) (z0 + (gZ σ' - gZ σ0)) (eF E)) 5 (c0 + (gM σ - gM σ0)) (z0 + (gZ σ - gZ σ0)) σ 79 [some (.ref (ad E l0)), none, none, some (.ref (ad E l3)), some (.int l4)] [] := by
  obtain ⟨my1, my2⟩ := uJ0_init_db425_79 h
  unfold DJ0_init_db425_79 at h
  obtain ⟨hm1, hm2⟩ := hm
  obtain ⟨hR1, hR2, hR3, hR4⟩ := id hR
  refine x_aload_n (pc := 79) C dJ0_init_db425_79 rfl rfl ?_
  refine x_iconst (v := 1) (pc := 80) C dJ0_init_db425_80 (by decide) ?_
  obtain ⟨k, h⟩ := chk_s h
  have k2 := k
  obtain ⟨k, h⟩ := chk_s h
  obtain ⟨σ1, e1, h⟩ := wlet_s h
  have mσ1 : gM σ1 = gM σ ∧ gZ σ1 = gZ σ := by rw [e1]; exact ⟨rfl, rfl⟩
  obtain ⟨mσ1a, mσ1b⟩ := mσ1
  refine x_dputB (pc := 81) C (Or.inr ⟨qJ0_15, hn⟩) rfl k2 k dJ0_init_db425_81 (x_eq e1 ?_)
  refine x_aload_n (pc := 84) C dJ0_init_db425_84 rfl rfl ?_
  refine x_aload_n (pc := 85) C dJ0_init_db425_85 rfl rfl ?_
  refine x_iconst (v := 0) (pc := 86) C dJ0_init_db425_86 (by decide) ?_
  refine x_iload (pc := 87) C dJ0_init_db425_87 rfl ?_
  refine x_iconst (v := 1) (pc := 89) C dJ0_init_db425_89 (by decide) ?_
  refine x_ishl (pc := 90) C dJ0_init_db425_90 ?_
  obtain ⟨v2, σ3, k, h⟩ := bnd_s h
  obtain ⟨mσ3a, mσ3b⟩ := umJ7_copyOfRange_39247 k
  obtain ⟨mz1, mz2⟩ := uJ0_init_db425_94 h
  refine x_callS1 (pc := 91) C (mJ7_copyOfRange_39247 E l k) cJ0_54 zJ7_copyOfRange_39247 rfl rfl (Nat.le_of_ble_eq_true rfl) ⟨(Nat.le_trans (Nat.le_of_ble_eq_true rfl) hR1), (Nat.le_trans (m := 40 * 4) (Nat.le_of_ble_eq_true rfl) hR2), by omega, by omega⟩ dJ0_init_db425_91 ?_
  exact x_sub (x_wide (by omega) (by omega) (tJ0_init_db425_94 C hr hn hR ⟨by omega, by omega⟩ h)) (xLe_n (xLe_n (xLe_n (xLe_n (xLe_n xLe_0)))))
def DJ0_init_db425 (l0 : Nat) (l1 : Nat) (σ : Sg) : Option (Unit × Sg) :=
  chk (ckP σ 8 0 l1) <|
  bnd (DJ5_getValue_6d5f1 l1 σ) fun v1 σ2 =>
  chk (ckP σ2 8 0 l1) <|
  bnd (DJ4_length_8abf5 l1 σ2) fun v3 σ4 =>
  chk (ckP σ4 8 0 l1) <|
  bnd (DJ5_isLatin1_aae02 l1 σ4) fun v5 σ6 =>
  if v5 = 0 then
    if (1 : Int32) = 0 then
      DJ0_init_db425_79 l0 v1 v3 σ6
    else
      chk (ckP σ6 8 2 l1) <|
      if (gI σ6 l1 2) = 0 then
        DJ0_init_db425_79 l0 v1 v3 σ6
      else
        none
  else
    chk (ckH σ6 7 l0) <|
    chk (ckK (0 : Int32)) <|
    wlet (pI σ6 l0 1 (0 : Int32)) fun σ7 =>
    bnd (DJ7_copyOfRange_39247 v1 (0 : Int32) v3 σ7) fun v8 σ9 =>
    DJ0_init_db425_35 l0 v8 σ9
theorem umJ0_init_db425 {l0 : Nat} {l1 : Nat} {σ : Sg} {r : Unit} {σ' : Sg} (h : DJ0_init_db425 l0 l1 σ = some (r, σ')) : Mo σ σ' := by
  unfold DJ0_init_db425 at h
  obtain ⟨k, h⟩ := chk_s h
  obtain ⟨v1, σ2, k, h⟩ := bnd_s h
  obtain ⟨mσ2a, mσ2b⟩ := umJ5_getValue_6d5f1 k
  obtain ⟨k, h⟩ := chk_s h
  obtain ⟨v3, σ4, k, h⟩ := bnd_s h
  obtain ⟨mσ4a, mσ4b⟩ := umJ4_length_8abf5 k
  obtain ⟨k, h⟩ := chk_s h
  obtain ⟨v5, σ6, k, h⟩ := bnd_s h
  obtain ⟨mσ6a, mσ6b⟩ := umJ5_isLatin1_aae02 k
  by_cases q : v5 = 0
  · rw [if_pos q] at h
    by_cases q : (1 : Int32) = 0
    · rw [if_pos q] at h
      obtain ⟨mz1, mz2⟩ := uJ0_init_db425_79 h
      exact ⟨by omega, by omega⟩
    · rw [if_neg q] at h
      obtain ⟨k, h⟩ := chk_s h
      by_cases q : (gI σ6 l1 2) = 0
      · rw [if_pos q] at h
        obtain ⟨mz1, mz2⟩ := uJ0_init_db425_79 h
        exact ⟨by omega, by omega⟩
      · rw [if_neg q] at h
        cases h
  · rw [if_neg q] at h
    obtain ⟨k, h⟩ := chk_s h
    obtain ⟨k, h⟩ := chk_s h
    obtain ⟨σ7, e1, h⟩ := wlet_s h
    have mσ7 : gM σ7 = gM σ6 ∧ gZ σ7 = gZ σ6 := by rw [e1]; exact ⟨rfl, rfl⟩
    obtain ⟨mσ7a, mσ7b⟩ := mσ7
    obtain ⟨v8, σ9, k, h⟩ := bnd_s h
    obtain ⟨mσ9a, mσ9b⟩ := umJ7_copyOfRange_39247 k
    obtain ⟨mz1, mz2⟩ := uJ0_init_db425_35 h
    exact ⟨by omega, by omega⟩
theorem tqJ0_init_db425 {r : Unit} {σ' : Sg} (C : Cx E p s m args meth c RJ0 cJ0_init_db425 5) (hr : meth.sig.returnType = none) (hn : meth.name = yJ0_init_db425.name) (hR : RR R 4 (c0 + (gM σ' - gM σ0)) (z0 + (gZ σ' - gZ σ0))) {l0 : Nat} {l1 : Nat} {σ : Sg} (hm : Mo σ0 σ) (h : DJ0_init_db425 l0 l1 σ = some (r, σ')) : X E p l e R s m args below meth c (MQ below (QdX E none σ') args s (c0 + (gM σ' - gM σ0)) (z0 + (gZ σ' - gZ σ0)) (eF E)) 5 (c0 + (gM σ - gM σ0)) (z0 + (gZ σ - gZ σ0)) σ 0 [some (.ref (ad E l0)), some (.ref (ad E l1)), some (.null), none, none] [] := by
  obtain ⟨my1, my2⟩ := umJ0_init_db425 h
  unfold DJ0_init_db425 at h
  obtain ⟨hm1, hm2⟩ := hm
  obtain ⟨hR1, hR2, hR3, hR4⟩ := id hR
  refine x_aload_n (pc := 0) C dJ0_init_db425_0 rfl rfl ?_
  refine x_objInit (pc := 1) C oJ0_1 oi1 oi2 ⟨(Nat.le_trans (Nat.le_of_ble_eq_true rfl) hR1), (Nat.le_trans (m := 40 * 4) (Nat.le_of_ble_eq_true rfl) hR2)⟩ dJ0_init_db425_1 ?_
  refine x_aload_n (pc := 4) C dJ0_init_db425_4 rfl rfl ?_
  obtain ⟨k, h⟩ := chk_s h
  have k2 := k
  obtain ⟨v1, σ2, k, h⟩ := bnd_s h
  obtain ⟨mσ2a, mσ2b⟩ := umJ5_getValue_6d5f1 k
  refine x_dcallU1 (pc := 5) C (x := yJ5_getValue_6d5f1) (mJ5_getValue_6d5f1 E l k) cl8 k2 ulJ0_552.1 ulJ0_552.2 uuJ5_getValue_6d5f1.1 uuJ5_getValue_6d5f1.2.1 usel uuJ5_getValue_6d5f1.2.2.1 uuJ5_getValue_6d5f1.2.2.2.1 uuJ5_getValue_6d5f1.2.2.2.2.1 uuJ5_getValue_6d5f1.2.2.2.2.2 rfl rfl (Nat.le_of_ble_eq_true rfl) ⟨(Nat.le_trans (Nat.le_of_ble_eq_true rfl) hR1), (Nat.le_trans (m := 40 * 4) (Nat.le_of_ble_eq_true rfl) hR2), by omega, by omega⟩ dJ0_init_db425_5 ?_
  refine x_astore_n (M := [some _, some _, some _, some _, none]) (pc := 8) C dJ0_init_db425_8 rfl (by decide) rfl ?_
  refine x_aload_n (pc := 9) C dJ0_init_db425_9 rfl rfl ?_
  obtain ⟨k, h⟩ := chk_s h
  have k2 := k
  obtain ⟨v3, σ4, k, h⟩ := bnd_s h
  obtain ⟨mσ4a, mσ4b⟩ := umJ4_length_8abf5 k
  refine x_dcallU1 (pc := 10) C (x := yJ5_length_8abf5) (mJ4_length_8abf5 E l k) cl8 k2 ulJ0_549.1 ulJ0_549.2 uuJ5_length_8abf5.1 uuJ5_length_8abf5.2.1 usel uuJ5_length_8abf5.2.2.1 uuJ5_length_8abf5.2.2.2.1 uuJ5_length_8abf5.2.2.2.2.1 uuJ5_length_8abf5.2.2.2.2.2 rfl rfl (Nat.le_of_ble_eq_true rfl) ⟨(Nat.le_trans (Nat.le_of_ble_eq_true rfl) hR1), (Nat.le_trans (m := 40 * 4) (Nat.le_of_ble_eq_true rfl) hR2), by omega, by omega⟩ dJ0_init_db425_10 ?_
  refine x_istore (M := [some _, some _, some _, some _, some _]) (pc := 13) C dJ0_init_db425_13 (by decide) rfl ?_
  refine x_aload_n (pc := 15) C dJ0_init_db425_15 rfl rfl ?_
  obtain ⟨k, h⟩ := chk_s h
  have k2 := k
  obtain ⟨v5, σ6, k, h⟩ := bnd_s h
  obtain ⟨mσ6a, mσ6b⟩ := umJ5_isLatin1_aae02 k
  refine x_dcallU1 (pc := 16) C (x := yJ5_isLatin1_aae02) (mJ5_isLatin1_aae02 E l k) cl8 k2 ulJ0_1047.1 ulJ0_1047.2 uuJ5_isLatin1_aae02.1 uuJ5_isLatin1_aae02.2.1 usel uuJ5_isLatin1_aae02.2.2.1 uuJ5_isLatin1_aae02.2.2.2.1 uuJ5_isLatin1_aae02.2.2.2.2.1 uuJ5_isLatin1_aae02.2.2.2.2.2 rfl rfl (Nat.le_of_ble_eq_true rfl) ⟨(Nat.le_trans (Nat.le_of_ble_eq_true rfl) hR1), (Nat.le_trans (m := 40 * 4) (Nat.le_of_ble_eq_true rfl) hR2), by omega, by omega⟩ dJ0_init_db425_16 ?_
  refine x_if_eq (pc := 19) (tgt := 41) C dJ0_init_db425_19 (by decide) (fun q => ?_) (fun q => ?_)
  · rw [if_pos q] at h
    refine x_getC (pc := 41) C gJ0_38 dJ0_init_db425_41 ?_
    refine x_if_eq (pc := 44) (tgt := 79) C dJ0_init_db425_44 (by decide) (fun q => ?_) (fun q => ?_)
    · rw [if_pos q] at h
      exact x_sub (x_wide (by omega) (by omega) (tJ0_init_db425_79 C hr hn hR ⟨by omega, by omega⟩ h)) (xLe_s (xLe_n (xLe_n (xLe_s (xLe_s xLe_0)))))
    · rw [if_neg q] at h
      refine x_aload_n (pc := 47) C dJ0_init_db425_47 rfl rfl ?_
      obtain ⟨k, h⟩ := chk_s h
      refine x_dgetI (pc := 48) C fdJ0_1048 rfl k dJ0_init_db425_48 ?_
      refine x_if_eq (pc := 51) (tgt := 79) C dJ0_init_db425_51 (by decide) (fun q => ?_) (fun q => ?_)
      · rw [if_pos q] at h
        exact x_sub (x_wide (by omega) (by omega) (tJ0_init_db425_79 C hr hn hR ⟨by omega, by omega⟩ h)) (xLe_s (xLe_n (xLe_n (xLe_s (xLe_s xLe_0)))))
      · rw [if_neg q] at h
        refine x_aload_n (pc := 54) C dJ0_init_db425_54 rfl rfl ?_
        refine x_aload_n (pc := 55) C dJ0_init_db425_55 rfl rfl ?_
        refine x_iconst (v := 0) (pc := 56) C dJ0_init_db425_56 (by decide) ?_
        refine x_iload (pc := 57) C dJ0_init_db425_57 rfl ?_
        cases h
  · rw [if_neg q] at h
    refine x_aload_n (pc := 22) C dJ0_init_db425_22 rfl rfl ?_
    refine x_iconst (v := 0) (pc := 23) C dJ0_init_db425_23 (by decide) ?_
    obtain ⟨k, h⟩ := chk_s h
    have k2 := k
    obtain ⟨k, h⟩ := chk_s h
    obtain ⟨σ7, e1, h⟩ := wlet_s h
    have mσ7 : gM σ7 = gM σ6 ∧ gZ σ7 = gZ σ6 := by rw [e1]; exact ⟨rfl, rfl⟩
    obtain ⟨mσ7a, mσ7b⟩ := mσ7
    refine x_dputB (pc := 24) C (Or.inr ⟨qJ0_15, hn⟩) rfl k2 k dJ0_init_db425_24 (x_eq e1 ?_)
    refine x_aload_n (pc := 27) C dJ0_init_db425_27 rfl rfl ?_
    refine x_aload_n (pc := 28) C dJ0_init_db425_28 rfl rfl ?_
    refine x_iconst (v := 0) (pc := 29) C dJ0_init_db425_29 (by decide) ?_
    refine x_iload (pc := 30) C dJ0_init_db425_30 rfl ?_
    obtain ⟨v8, σ9, k, h⟩ := bnd_s h
    obtain ⟨mσ9a, mσ9b⟩ := umJ7_copyOfRange_39247 k
    obtain ⟨mz1, mz2⟩ := uJ0_init_db425_35 h
    refine x_callS1 (pc := 32) C (mJ7_copyOfRange_39247 E l k) cJ0_54 zJ7_copyOfRange_39247 rfl rfl (Nat.le_of_ble_eq_true rfl) ⟨(Nat.le_trans (Nat.le_of_ble_eq_true rfl) hR1), (Nat.le_trans (m := 40 * 4) (Nat.le_of_ble_eq_true rfl) hR2), by omega, by omega⟩ dJ0_init_db425_32 ?_
    exact x_sub (x_wide (by omega) (by omega) (tJ0_init_db425_35 C hr hn hR ⟨by omega, by omega⟩ h)) (xLe_n (xLe_n (xLe_n (xLe_n (xLe_n xLe_0)))))
theorem tmJ0_init_db425 {r : Unit} {σ' : Sg} (C : Cx E p s m args meth c RJ0 cJ0_init_db425 5) (hr : meth.sig.returnType = none) (hn : meth.name = yJ0_init_db425.name) {l0 : Nat} {l1 : Nat} {σ : Sg} (h : DJ0_init_db425 l0 l1 σ = some (r, σ')) : X E p l e (rmA 4 (gM σ' - gM σ) (gZ σ' - gZ σ)) s m args below meth c (MQ below (QdX E none σ') args s (gM σ' - gM σ) (gZ σ' - gZ σ) (eF E)) 5 0 0 σ 0 [some (.ref (ad E l0)), some (.ref (ad E l1)), some (.null), none, none] [] := by
  have hR : RR (rmA 4 (gM σ' - gM σ) (gZ σ' - gZ σ)) 4 (0 + (gM σ' - gM σ)) (0 + (gZ σ' - gZ σ)) := ⟨Nat.le_refl _, Nat.le_refl _, Nat.le_of_eq (Nat.zero_add _), Nat.le_of_eq (Nat.zero_add _)⟩
  have hq := tqJ0_init_db425 (e := e) (l := l) (below := below) (c0 := 0) (z0 := 0) (σ0 := σ) C hr hn hR ⟨Nat.le_refl _, Nat.le_refl _⟩ h
  simp only [Nat.zero_add, Nat.sub_self] at hq
  exact hq
theorem mJ0_init_db425 (E : Ev) (l : Launch) {l0 : Nat} {l1 : Nat} {σ : Sg} {r : Unit} {σ' : Sg} (h : DJ0_init_db425 l0 l1 σ = some (r, σ')) : Mt E l yJ0_init_db425 cJ0_init_db425 5 none 4 (gM σ' - gM σ) (gZ σ' - gZ σ) [.ref (ad E l0), .ref (ad E l1), .null] σ none σ' := by
  refine Mt.ofX (by decide) (Nat.le_of_ble_eq_true rfl) (L0 := [some (.ref (ad E l0)), some (.ref (ad E l1)), some (.null), none, none]) (xEntN_ok [.ref (ad E l0), .ref (ad E l1), .null] 5) (fun p e s m args below meth c C hr hn => ?_)
  refine (?_ : X E p l e (rmA 4 (gM σ' - gM σ) (gZ σ' - gZ σ)) s m args below meth c (MQ below (QdX E none σ') args s (gM σ' - gM σ) (gZ σ' - gZ σ) (eF E)) 5 0 0 σ 0 [some (.ref (ad E l0)), some (.ref (ad E l1)), some (.null), none, none] [])
  exact tmJ0_init_db425 C hr hn h
def DJ0_init_81219_6 (σ : Sg) : Option (Unit × Sg) :=
  some ((), σ)
theorem uJ0_init_81219_6 {r : Unit} {σ' : Sg} {σ : Sg} (h : DJ0_init_81219_6  σ = some (r, σ')) : Mo σ σ' := by
  unfold DJ0_init_81219_6 at h
  cases h
  exact ⟨by omega, by omega⟩
theorem tJ0_init_81219_6 {r : Unit} {σ' : Sg} (C : Cx E p s m args meth c RJ0 cJ0_init_81219 2) (hr : meth.sig.returnType = none) (hn : meth.name = yJ0_init_81219.name) (hR : RR R 5 (c0 + (gM σ' - gM σ0)) (z0 + (gZ σ' - gZ σ0))) {σ : Sg} (hm : Mo σ0 σ) (h : DJ0_init_81219_6  σ = some (r, σ')) : X E p l e R s m args below meth c (MQ below (QdX E none σ') args s (c0 + (gM σ' - gM σ0)) (z0 + (gZ σ' - gZ σ0)) (eF E)) 2 (c0 + (gM σ - gM σ0)) (z0 + (gZ σ - gZ σ0)) σ 6 [none, none] [] := by
  obtain ⟨my1, my2⟩ := uJ0_init_81219_6 h
  unfold DJ0_init_81219_6 at h
  obtain ⟨hm1, hm2⟩ := hm
  obtain ⟨hR1, hR2, hR3, hR4⟩ := id hR
  cases h
  exact x_wide (by omega) (by omega) (x_vret C hr dJ0_init_81219_6)
def DJ0_init_81219 (l0 : Nat) (l1 : Nat) (σ : Sg) : Option (Unit × Sg) :=
  bnd (DJ0_init_db425 l0 l1 σ) fun _ σ1 =>
  DJ0_init_81219_6 σ1
theorem umJ0_init_81219 {l0 : Nat} {l1 : Nat} {σ : Sg} {r : Unit} {σ' : Sg} (h : DJ0_init_81219 l0 l1 σ = some (r, σ')) : Mo σ σ' := by
  unfold DJ0_init_81219 at h
  obtain ⟨u0, σ1, k, h⟩ := bnd_s h
  obtain ⟨mσ1a, mσ1b⟩ := umJ0_init_db425 k
  obtain ⟨mz1, mz2⟩ := uJ0_init_81219_6 h
  exact ⟨by omega, by omega⟩
theorem tqJ0_init_81219 {r : Unit} {σ' : Sg} (C : Cx E p s m args meth c RJ0 cJ0_init_81219 2) (hr : meth.sig.returnType = none) (hn : meth.name = yJ0_init_81219.name) (hR : RR R 5 (c0 + (gM σ' - gM σ0)) (z0 + (gZ σ' - gZ σ0))) {l0 : Nat} {l1 : Nat} {σ : Sg} (hm : Mo σ0 σ) (h : DJ0_init_81219 l0 l1 σ = some (r, σ')) : X E p l e R s m args below meth c (MQ below (QdX E none σ') args s (c0 + (gM σ' - gM σ0)) (z0 + (gZ σ' - gZ σ0)) (eF E)) 2 (c0 + (gM σ - gM σ0)) (z0 + (gZ σ - gZ σ0)) σ 0 [some (.ref (ad E l0)), some (.ref (ad E l1))] [] := by
  obtain ⟨my1, my2⟩ := umJ0_init_81219 h
  unfold DJ0_init_81219 at h
  obtain ⟨hm1, hm2⟩ := hm
  obtain ⟨hR1, hR2, hR3, hR4⟩ := id hR
  refine x_aload_n (pc := 0) C dJ0_init_81219_0 rfl rfl ?_
  refine x_aload_n (pc := 1) C dJ0_init_81219_1 rfl rfl ?_
  refine x_anull (pc := 2) C dJ0_init_81219_2 ?_
  obtain ⟨u0, σ1, k, h⟩ := bnd_s h
  obtain ⟨mσ1a, mσ1b⟩ := umJ0_init_db425 k
  obtain ⟨mz1, mz2⟩ := uJ0_init_81219_6 h
  refine x_callI0 (pc := 3) C (mJ0_init_db425 E l k) cJ0_489 rfl nJ0_init_db425 rfl rfl (Nat.le_of_ble_eq_true rfl) ⟨(Nat.le_trans (Nat.le_of_ble_eq_true rfl) hR1), (Nat.le_trans (m := 40 * 5) (Nat.le_of_ble_eq_true rfl) hR2), by omega, by omega⟩ dJ0_init_81219_3 ?_
  exact x_sub (x_wide (by omega) (by omega) (tJ0_init_81219_6 C hr hn hR ⟨by omega, by omega⟩ h)) (xLe_n (xLe_n xLe_0))
theorem tmJ0_init_81219 {r : Unit} {σ' : Sg} (C : Cx E p s m args meth c RJ0 cJ0_init_81219 2) (hr : meth.sig.returnType = none) (hn : meth.name = yJ0_init_81219.name) {l0 : Nat} {l1 : Nat} {σ : Sg} (h : DJ0_init_81219 l0 l1 σ = some (r, σ')) : X E p l e (rmA 5 (gM σ' - gM σ) (gZ σ' - gZ σ)) s m args below meth c (MQ below (QdX E none σ') args s (gM σ' - gM σ) (gZ σ' - gZ σ) (eF E)) 2 0 0 σ 0 [some (.ref (ad E l0)), some (.ref (ad E l1))] [] := by
  have hR : RR (rmA 5 (gM σ' - gM σ) (gZ σ' - gZ σ)) 5 (0 + (gM σ' - gM σ)) (0 + (gZ σ' - gZ σ)) := ⟨Nat.le_refl _, Nat.le_refl _, Nat.le_of_eq (Nat.zero_add _), Nat.le_of_eq (Nat.zero_add _)⟩
  have hq := tqJ0_init_81219 (e := e) (l := l) (below := below) (c0 := 0) (z0 := 0) (σ0 := σ) C hr hn hR ⟨Nat.le_refl _, Nat.le_refl _⟩ h
  simp only [Nat.zero_add, Nat.sub_self] at hq
  exact hq
theorem mJ0_init_81219 (E : Ev) (l : Launch) {l0 : Nat} {l1 : Nat} {σ : Sg} {r : Unit} {σ' : Sg} (h : DJ0_init_81219 l0 l1 σ = some (r, σ')) : Mt E l yJ0_init_81219 cJ0_init_81219 2 none 5 (gM σ' - gM σ) (gZ σ' - gZ σ) [.ref (ad E l0), .ref (ad E l1)] σ none σ' := by
  refine Mt.ofX (by decide) (Nat.le_of_ble_eq_true rfl) (L0 := [some (.ref (ad E l0)), some (.ref (ad E l1))]) (xEntN_ok [.ref (ad E l0), .ref (ad E l1)] 2) (fun p e s m args below meth c C hr hn => ?_)
  refine (?_ : X E p l e (rmA 5 (gM σ' - gM σ) (gZ σ' - gZ σ)) s m args below meth c (MQ below (QdX E none σ') args s (gM σ' - gM σ) (gZ σ' - gZ σ) (eF E)) 2 0 0 σ 0 [some (.ref (ad E l0)), some (.ref (ad E l1))] [])
  exact tmJ0_init_81219 C hr hn h
def DJ4_toString_0e30d_8 (s0 : Nat) (σ : Sg) : Option (Nat × Sg) :=
  some (s0, σ)
theorem uJ4_toString_0e30d_8 {r : Nat} {σ' : Sg} {s0 : Nat} {σ : Sg} (h : DJ4_toString_0e30d_8 s0 σ = some (r, σ')) : Mo σ σ' := by
  unfold DJ4_toString_0e30d_8 at h
  cases h
  exact ⟨by omega, by omega⟩
theorem tJ4_toString_0e30d_8 {r : Nat} {σ' : Sg} (C : Cx E p s m args meth c RJ4 cJ4_toString_0e30d 1) (hr : meth.sig.returnType = (some (.object "java/lang/String"))) (hR : RR R 6 (c0 + (gM σ' - gM σ0)) (z0 + (gZ σ' - gZ σ0))) {s0 : Nat} {σ : Sg} (hm : Mo σ0 σ) (h : DJ4_toString_0e30d_8 s0 σ = some (r, σ')) : X E p l e R s m args below meth c (MQ below (QdX E (some (.ref (ad E r))) σ') args s (c0 + (gM σ' - gM σ0)) (z0 + (gZ σ' - gZ σ0)) (eF E)) 1 (c0 + (gM σ - gM σ0)) (z0 + (gZ σ - gZ σ0)) σ 8 [none] [.ref (ad E s0)] := by
  obtain ⟨my1, my2⟩ := uJ4_toString_0e30d_8 h
  unfold DJ4_toString_0e30d_8 at h
  obtain ⟨hm1, hm2⟩ := hm
  obtain ⟨hR1, hR2, hR3, hR4⟩ := id hR
  cases h
  exact x_wide (by omega) (by omega) (x_aret C hr (Or.inl ⟨_, rfl⟩) dJ4_toString_0e30d_8)
def DJ4_toString_0e30d_3 (l0 : Nat) (s0 : Nat) (σ : Sg) : Option (Nat × Sg) :=
  bnd (DJ0_init_81219 s0 l0 σ) fun _ σ1 =>
  DJ4_toString_0e30d_8 s0 σ1
theorem uJ4_toString_0e30d_3 {r : Nat} {σ' : Sg} {l0 : Nat} {s0 : Nat} {σ : Sg} (h : DJ4_toString_0e30d_3 l0 s0 σ = some (r, σ')) : Mo σ σ' := by
  unfold DJ4_toString_0e30d_3 at h
  obtain ⟨u0, σ1, k, h⟩ := bnd_s h
  obtain ⟨mσ1a, mσ1b⟩ := umJ0_init_81219 k
  obtain ⟨mz1, mz2⟩ := uJ4_toString_0e30d_8 h
  exact ⟨by omega, by omega⟩
theorem tJ4_toString_0e30d_3 {r : Nat} {σ' : Sg} (C : Cx E p s m args meth c RJ4 cJ4_toString_0e30d 1) (hr : meth.sig.returnType = (some (.object "java/lang/String"))) (hR : RR R 6 (c0 + (gM σ' - gM σ0)) (z0 + (gZ σ' - gZ σ0))) {l0 : Nat} {s0 : Nat} {σ : Sg} (hm : Mo σ0 σ) (h : DJ4_toString_0e30d_3 l0 s0 σ = some (r, σ')) : X E p l e R s m args below meth c (MQ below (QdX E (some (.ref (ad E r))) σ') args s (c0 + (gM σ' - gM σ0)) (z0 + (gZ σ' - gZ σ0)) (eF E)) 1 (c0 + (gM σ - gM σ0)) (z0 + (gZ σ - gZ σ0)) σ 3 [some (.ref (ad E l0))] [.ref (ad E s0)] := by
  obtain ⟨my1, my2⟩ := uJ4_toString_0e30d_3 h
  unfold DJ4_toString_0e30d_3 at h
  obtain ⟨hm1, hm2⟩ := hm
  obtain ⟨hR1, hR2, hR3, hR4⟩ := id hR
  refine x_dup (pc := 3) C dJ4_toString_0e30d_3 rfl ?_
  refine x_aload_n (pc := 4) C dJ4_toString_0e30d_4 rfl rfl ?_
  obtain ⟨u0, σ1, k, h⟩ := bnd_s h
  obtain ⟨mσ1a, mσ1b⟩ := umJ0_init_81219 k
  obtain ⟨mz1, mz2⟩ := uJ4_toString_0e30d_8 h
  refine x_callI0 (pc := 5) C (mJ0_init_81219 E l k) cJ4_137 rfl nJ0_init_81219 rfl rfl (Nat.le_of_ble_eq_true rfl) ⟨(Nat.le_trans (Nat.le_of_ble_eq_true rfl) hR1), (Nat.le_trans (m := 40 * 6) (Nat.le_of_ble_eq_true rfl) hR2), by omega, by omega⟩ dJ4_toString_0e30d_5 ?_
  exact x_sub (x_wide (by omega) (by omega) (tJ4_toString_0e30d_8 C hr hR ⟨by omega, by omega⟩ h)) (xLe_n xLe_0)
def DJ4_toString_0e30d (l0 : Nat) (σ : Sg) : Option (Nat × Sg) :=
  chk (ck51 σ) <|
  wlet (mkD σ 1 7 4) fun σ1 =>
  DJ4_toString_0e30d_3 l0 (2000 + gM σ) σ1
theorem umJ4_toString_0e30d {l0 : Nat} {σ : Sg} {r : Nat} {σ' : Sg} (h : DJ4_toString_0e30d l0 σ = some (r, σ')) : Mo σ σ' := by
  unfold DJ4_toString_0e30d at h
  obtain ⟨k5, h⟩ := chk_s h
  obtain ⟨σ1, e1, h⟩ := wlet_s h
  have mσ1 : gM σ1 = gM σ + 1 ∧ gZ σ1 = gZ σ + 4 := by rw [e1]; exact ⟨rfl, rfl⟩
  obtain ⟨mσ1a, mσ1b⟩ := mσ1
  obtain ⟨mz1, mz2⟩ := uJ4_toString_0e30d_3 h
  exact ⟨by omega, by omega⟩
theorem tqJ4_toString_0e30d {r : Nat} {σ' : Sg} (C : Cx E p s m args meth c RJ4 cJ4_toString_0e30d 1) (hr : meth.sig.returnType = (some (.object "java/lang/String"))) (hR : RR R 6 (c0 + (gM σ' - gM σ0)) (z0 + (gZ σ' - gZ σ0))) {l0 : Nat} {σ : Sg} (hm : Mo σ0 σ) (h : DJ4_toString_0e30d l0 σ = some (r, σ')) : X E p l e R s m args below meth c (MQ below (QdX E (some (.ref (ad E r))) σ') args s (c0 + (gM σ' - gM σ0)) (z0 + (gZ σ' - gZ σ0)) (eF E)) 1 (c0 + (gM σ - gM σ0)) (z0 + (gZ σ - gZ σ0)) σ 0 [some (.ref (ad E l0))] [] := by
  obtain ⟨my1, my2⟩ := umJ4_toString_0e30d h
  unfold DJ4_toString_0e30d at h
  obtain ⟨hm1, hm2⟩ := hm
  obtain ⟨hR1, hR2, hR3, hR4⟩ := id hR
  obtain ⟨k5, h⟩ := chk_s h
  obtain ⟨σ1, e1, h⟩ := wlet_s h
  have mσ1 : gM σ1 = gM σ + 1 ∧ gZ σ1 = gZ σ + 4 := by rw [e1]; exact ⟨rfl, rfl⟩
  obtain ⟨mσ1a, mσ1b⟩ := mσ1
  obtain ⟨mz1, mz2⟩ := uJ4_toString_0e30d_3 h
  refine x_dnew (pc := 0) C cl7 wJ4_18.1 wJ4_18.2.1 wJ4_18.2.2 df7 k5 ⟨by omega, by omega⟩ dJ4_toString_0e30d_0 (x_eq e1 ?_)
  exact x_sub (x_wide (by omega) (by omega) (tJ4_toString_0e30d_3 C hr hR ⟨by omega, by omega⟩ h)) (xLe_s xLe_0)
theorem tmJ4_toString_0e30d {r : Nat} {σ' : Sg} (C : Cx E p s m args meth c RJ4 cJ4_toString_0e30d 1) (hr : meth.sig.returnType = (some (.object "java/lang/String"))) {l0 : Nat} {σ : Sg} (h : DJ4_toString_0e30d l0 σ = some (r, σ')) : X E p l e (rmA 6 (gM σ' - gM σ) (gZ σ' - gZ σ)) s m args below meth c (MQ below (QdX E (some (.ref (ad E r))) σ') args s (gM σ' - gM σ) (gZ σ' - gZ σ) (eF E)) 1 0 0 σ 0 [some (.ref (ad E l0))] [] := by
  have hR : RR (rmA 6 (gM σ' - gM σ) (gZ σ' - gZ σ)) 6 (0 + (gM σ' - gM σ)) (0 + (gZ σ' - gZ σ)) := ⟨Nat.le_refl _, Nat.le_refl _, Nat.le_of_eq (Nat.zero_add _), Nat.le_of_eq (Nat.zero_add _)⟩
  have hq := tqJ4_toString_0e30d (e := e) (l := l) (below := below) (c0 := 0) (z0 := 0) (σ0 := σ) C hr hR ⟨Nat.le_refl _, Nat.le_refl _⟩ h
  simp only [Nat.zero_add, Nat.sub_self] at hq
  exact hq
theorem mJ4_toString_0e30d (E : Ev) (l : Launch) {l0 : Nat} {σ : Sg} {r : Nat} {σ' : Sg} (h : DJ4_toString_0e30d l0 σ = some (r, σ')) : Mt E l yJ4_toString_0e30d cJ4_toString_0e30d 1 (some (.object "java/lang/String")) 6 (gM σ' - gM σ) (gZ σ' - gZ σ) [.ref (ad E l0)] σ (some (.ref (ad E r))) σ' := by
  refine Mt.ofX (by decide) (Nat.le_of_ble_eq_true rfl) (L0 := [some (.ref (ad E l0))]) (xEntN_ok [.ref (ad E l0)] 1) (fun p e s m args below meth c C hr hn => ?_)
  refine (?_ : X E p l e (rmA 6 (gM σ' - gM σ) (gZ σ' - gZ σ)) s m args below meth c (MQ below (QdX E (some (.ref (ad E r))) σ') args s (gM σ' - gM σ) (gZ σ' - gZ σ) (eF E)) 1 0 0 σ 0 [some (.ref (ad E l0))] [])
  exact tmJ4_toString_0e30d C hr h
def DJ1_canEncode_fc78d_12 (s0 : Int32) (σ : Sg) : Option (Int32 × Sg) :=
  chk (ck01 s0) <|
  some (s0, σ)
theorem uJ1_canEncode_fc78d_12 {r : Int32} {σ' : Sg} {s0 : Int32} {σ : Sg} (h : DJ1_canEncode_fc78d_12 s0 σ = some (r, σ')) : Me σ σ' := by
  unfold DJ1_canEncode_fc78d_12 at h
  obtain ⟨kz, h⟩ := chk_s h
  cases h
  exact ⟨by omega, by omega⟩
theorem tJ1_canEncode_fc78d_12 {r : Int32} {σ' : Sg} (C : Cx E p s m args meth c RJ1 cJ1_canEncode_fc78d 1) (hr : meth.sig.returnType = (some .boolean)) {s0 : Int32} {σ : Sg} (h : DJ1_canEncode_fc78d_12 s0 σ = some (r, σ')) : Y E p l e (rmA 1 0 0) s m args below meth c (some (.int r)) σ' 0 0 1 0 0 σ 12 [none] [.int s0] := by
  unfold DJ1_canEncode_fc78d_12 at h
  obtain ⟨kz, h⟩ := chk_s h
  cases h
  exact x_zret C hr (nar_01 kz) dJ1_canEncode_fc78d_12
def DJ1_canEncode_fc78d (l0 : Int32) (σ : Sg) : Option (Int32 × Sg) :=
  if (255 : Int32) < l0 then
    DJ1_canEncode_fc78d_12 (0 : Int32) σ
  else
    DJ1_canEncode_fc78d_12 (1 : Int32) σ
theorem umJ1_canEncode_fc78d {l0 : Int32} {σ : Sg} {r : Int32} {σ' : Sg} (h : DJ1_canEncode_fc78d l0 σ = some (r, σ')) : Me σ σ' := by
  unfold DJ1_canEncode_fc78d at h
  by_cases q : (255 : Int32) < l0
  · rw [if_pos q] at h
    obtain ⟨mz1, mz2⟩ := uJ1_canEncode_fc78d_12 h
    exact ⟨by omega, by omega⟩
  · rw [if_neg q] at h
    obtain ⟨mz1, mz2⟩ := uJ1_canEncode_fc78d_12 h
    exact ⟨by omega, by omega⟩
theorem mJ1_canEncode_fc78d (E : Ev) (l : Launch) {l0 : Int32} {σ : Sg} {r : Int32} {σ' : Sg} (h : DJ1_canEncode_fc78d l0 σ = some (r, σ')) : Mt E l yJ1_canEncode_fc78d cJ1_canEncode_fc78d 1 (some .boolean) 1 0 0 [.int l0] σ (some (.int r)) σ' := by
  refine Mt.ofX (by decide) (Nat.le_of_ble_eq_true rfl) (L0 := [some (.int l0)]) (xEntN_ok [.int l0] 1) (fun p e s m args below meth c C hr hn => ?_)
  unfold DJ1_canEncode_fc78d at h
  refine x_iload_n (pc := 0) C dJ1_canEncode_fc78d_0 rfl rfl ?_
  refine x_sipush (v := 255) (pc := 1) C dJ1_canEncode_fc78d_1 (by decide) ?_
  refine x_icmp_gt (pc := 4) (tgt := 11) C dJ1_canEncode_fc78d_4 (by decide) (fun q => ?_) (fun q => ?_)
  · rw [if_pos q] at h
    refine x_iconst (v := 0) (pc := 11) C dJ1_canEncode_fc78d_11 (by decide) ?_
    exact x_sub (tJ1_canEncode_fc78d_12 C hr h) (xLe_n xLe_0)
  · rw [if_neg q] at h
    refine x_iconst (v := 1) (pc := 7) C dJ1_canEncode_fc78d_7 (by decide) ?_
    refine x_goto (tgt := 12) (pc := 8) C dJ1_canEncode_fc78d_8 (by decide) ?_
    exact x_sub (tJ1_canEncode_fc78d_12 C hr h) (xLe_n xLe_0)
def DJ5_append_3fe6f_45 (l0 : Nat) (l1 : Int32) (σ : Sg) : Option (Nat × Sg) :=
  chk (ckP σ 8 0 l0) <|
  bnd (DJ5_isLatin1_aae02 l0 σ) fun v1 σ2 =>
  if v1 = 0 then
    chk (ckP σ2 8 0 l0) <|
    chk (ckV (gR σ2 l0 0)) <|
    chk (ckP σ2 8 3 l0) <|
    chk (ckH σ2 8 l0) <|
    wlet (pI σ2 l0 3 ((gI σ2 l0 3) + (1 : Int32))) fun σ3 =>
    none
  else
    none
theorem uJ5_append_3fe6f_45 {r : Nat} {σ' : Sg} {l0 : Nat} {l1 : Int32} {σ : Sg} (h : DJ5_append_3fe6f_45 l0 l1 σ = some (r, σ')) : Mo σ σ' := by
  unfold DJ5_append_3fe6f_45 at h
  obtain ⟨k, h⟩ := chk_s h
  obtain ⟨v1, σ2, k, h⟩ := bnd_s h
  obtain ⟨mσ2a, mσ2b⟩ := umJ5_isLatin1_aae02 k
  by_cases q : v1 = 0
  · rw [if_pos q] at h
    obtain ⟨k, h⟩ := chk_s h
    obtain ⟨k, h⟩ := chk_s h
    obtain ⟨k, h⟩ := chk_s h
    obtain ⟨k, h⟩ := chk_s h
    obtain ⟨σ3, e1, h⟩ := wlet_s h
    have mσ3 : gM σ3 = gM σ2 ∧ gZ σ3 = gZ σ2 := by rw [e1]; exact ⟨rfl, rfl⟩
    obtain ⟨mσ3a, mσ3b⟩ := mσ3
    cases h
  · rw [if_neg q] at h
    cases h
theorem tJ5_append_3fe6f_45 {r : Nat} {σ' : Sg} (C : Cx E p s m args meth c RJ5 cJ5_append_3fe6f 2) (hr : meth.sig.returnType = (some (.object "java/lang/AbstractStringBuilder"))) (hR : RR R 5 (c0 + (gM σ' - gM σ0)) (z0 + (gZ σ' - gZ σ0))) {l0 : Nat} {l1 : Int32} {σ : Sg} (hm : Mo σ0 σ) (h : DJ5_append_3fe6f_45 l0 l1 σ = some (r, σ')) : X E p l e R s m args below meth c (MQ below (QdX E (some (.ref (ad E r))) σ') args s (c0 + (gM σ' - gM σ0)) (z0 + (gZ σ' - gZ σ0)) (eF E)) 2 (c0 + (gM σ - gM σ0)) (z0 + (gZ σ - gZ σ0)) σ 45 [some (.ref (ad E l0)), some (.int l1)] [] := by
  obtain ⟨my1, my2⟩ := uJ5_append_3fe6f_45 h
  unfold DJ5_append_3fe6f_45 at h
  obtain ⟨hm1, hm2⟩ := hm
  obtain ⟨hR1, hR2, hR3, hR4⟩ := id hR
  refine x_aload_n (pc := 45) C dJ5_append_3fe6f_45 rfl rfl ?_
  obtain ⟨k, h⟩ := chk_s h
  have k2 := k
  obtain ⟨v1, σ2, k, h⟩ := bnd_s h
  obtain ⟨mσ2a, mσ2b⟩ := umJ5_isLatin1_aae02 k
  refine x_dcallU1 (pc := 46) C (x := yJ5_isLatin1_aae02) (mJ5_isLatin1_aae02 E l k) cl8 k2 ulJ5_83.1 ulJ5_83.2 uuJ5_isLatin1_aae02.1 uuJ5_isLatin1_aae02.2.1 usel uuJ5_isLatin1_aae02.2.2.1 uuJ5_isLatin1_aae02.2.2.2.1 uuJ5_isLatin1_aae02.2.2.2.2.1 uuJ5_isLatin1_aae02.2.2.2.2.2 rfl rfl (Nat.le_of_ble_eq_true rfl) ⟨(Nat.le_trans (Nat.le_of_ble_eq_true rfl) hR1), (Nat.le_trans (m := 40 * 5) (Nat.le_of_ble_eq_true rfl) hR2), by omega, by omega⟩ dJ5_append_3fe6f_46 ?_
  refine x_if_eq (pc := 49) (tgt := 56) C dJ5_append_3fe6f_49 (by decide) (fun q => ?_) (fun q => ?_)
  · rw [if_pos q] at h
    refine x_aload_n (pc := 56) C dJ5_append_3fe6f_56 rfl rfl ?_
    obtain ⟨k, h⟩ := chk_s h
    have k2 := k
    obtain ⟨k, h⟩ := chk_s h
    refine x_dgetR (pc := 57) C fdJ5_15 rfl k2 k dJ5_append_3fe6f_57 ?_
    refine x_aload_n (pc := 60) C dJ5_append_3fe6f_60 rfl rfl ?_
    refine x_dup (pc := 61) C dJ5_append_3fe6f_61 rfl ?_
    obtain ⟨k, h⟩ := chk_s h
    refine x_dgetI (pc := 62) C fdJ5_79 rfl k dJ5_append_3fe6f_62 ?_
    refine x_dup_x1 (pc := 65) C dJ5_append_3fe6f_65 rfl rfl ?_
    refine x_iconst (v := 1) (pc := 66) C dJ5_append_3fe6f_66 (by decide) ?_
    refine x_iadd (pc := 67) C dJ5_append_3fe6f_67 ?_
    obtain ⟨k, h⟩ := chk_s h
    obtain ⟨σ3, e1, h⟩ := wlet_s h
    have mσ3 : gM σ3 = gM σ2 ∧ gZ σ3 = gZ σ2 := by rw [e1]; exact ⟨rfl, rfl⟩
    obtain ⟨mσ3a, mσ3b⟩ := mσ3
    refine x_dputI (pc := 68) C pdJ5_79 rfl k dJ5_append_3fe6f_68 (x_eq e1 ?_)
    refine x_iload_n (pc := 71) C dJ5_append_3fe6f_71 rfl rfl ?_
    cases h
  · rw [if_neg q] at h
    refine x_aload_n (pc := 52) C dJ5_append_3fe6f_52 rfl rfl ?_
    cases h
def DJ5_append_3fe6f_10 (l0 : Nat) (l1 : Int32) (σ : Sg) : Option (Nat × Sg) :=
  chk (ckP σ 8 0 l0) <|
  bnd (DJ5_isLatin1_aae02 l0 σ) fun v1 σ2 =>
  if v1 = 0 then
    DJ5_append_3fe6f_45 l0 l1 σ2
  else
    bnd (DJ1_canEncode_fc78d l1 σ2) fun v3 σ4 =>
    if v3 = 0 then
      DJ5_append_3fe6f_45 l0 l1 σ4
    else
      chk (ckP σ4 8 0 l0) <|
      chk (ckV (gR σ4 l0 0)) <|
      chk (ckP σ4 8 3 l0) <|
      chk (ckH σ4 8 l0) <|
      wlet (pI σ4 l0 3 ((gI σ4 l0 3) + (1 : Int32))) fun σ5 =>
      chk (ckB σ5 6 (gR σ4 l0 0) (gI σ4 l0 3)) <|
      wlet (wI σ5 (gR σ4 l0 0) (gI σ4 l0 3).toNatClampNeg l1.toInt8.toInt32.toInt8.toInt32) fun σ6 =>
      some (l0, σ6)
theorem uJ5_append_3fe6f_10 {r : Nat} {σ' : Sg} {l0 : Nat} {l1 : Int32} {σ : Sg} (h : DJ5_append_3fe6f_10 l0 l1 σ = some (r, σ')) : Mo σ σ' := by
  unfold DJ5_append_3fe6f_10 at h
  obtain ⟨k, h⟩ := chk_s h
  obtain ⟨v1, σ2, k, h⟩ := bnd_s h
  obtain ⟨mσ2a, mσ2b⟩ := umJ5_isLatin1_aae02 k
  by_cases q : v1 = 0
  · rw [if_pos q] at h
    obtain ⟨mz1, mz2⟩ := uJ5_append_3fe6f_45 h
    exact ⟨by omega, by omega⟩
  · rw [if_neg q] at h
    obtain ⟨v3, σ4, k, h⟩ := bnd_s h
    obtain ⟨mσ4a, mσ4b⟩ := umJ1_canEncode_fc78d k
    by_cases q : v3 = 0
    · rw [if_pos q] at h
      obtain ⟨mz1, mz2⟩ := uJ5_append_3fe6f_45 h
      exact ⟨by omega, by omega⟩
    · rw [if_neg q] at h
      obtain ⟨k, h⟩ := chk_s h
      obtain ⟨k, h⟩ := chk_s h
      obtain ⟨k, h⟩ := chk_s h
      obtain ⟨k, h⟩ := chk_s h
      obtain ⟨σ5, e1, h⟩ := wlet_s h
      have mσ5 : gM σ5 = gM σ4 ∧ gZ σ5 = gZ σ4 := by rw [e1]; exact ⟨rfl, rfl⟩
      obtain ⟨mσ5a, mσ5b⟩ := mσ5
      obtain ⟨k, h⟩ := chk_s h
      obtain ⟨σ6, e1, h⟩ := wlet_s h
      have mσ6 : gM σ6 = gM σ5 ∧ gZ σ6 = gZ σ5 := by rw [e1]; exact ⟨rfl, rfl⟩
      obtain ⟨mσ6a, mσ6b⟩ := mσ6
      cases h
      exact ⟨by omega, by omega⟩
theorem tJ5_append_3fe6f_10 {r : Nat} {σ' : Sg} (C : Cx E p s m args meth c RJ5 cJ5_append_3fe6f 2) (hr : meth.sig.returnType = (some (.object "java/lang/AbstractStringBuilder"))) (hR : RR R 5 (c0 + (gM σ' - gM σ0)) (z0 + (gZ σ' - gZ σ0))) {l0 : Nat} {l1 : Int32} {σ : Sg} (hm : Mo σ0 σ) (h : DJ5_append_3fe6f_10 l0 l1 σ = some (r, σ')) : X E p l e R s m args below meth c (MQ below (QdX E (some (.ref (ad E r))) σ') args s (c0 + (gM σ' - gM σ0)) (z0 + (gZ σ' - gZ σ0)) (eF E)) 2 (c0 + (gM σ - gM σ0)) (z0 + (gZ σ - gZ σ0)) σ 10 [some (.ref (ad E l0)), some (.int l1)] [] := by
  obtain ⟨my1, my2⟩ := uJ5_append_3fe6f_10 h
  unfold DJ5_append_3fe6f_10 at h
  obtain ⟨hm1, hm2⟩ := hm
  obtain ⟨hR1, hR2, hR3, hR4⟩ := id hR
  refine x_aload_n (pc := 10) C dJ5_append_3fe6f_10 rfl rfl ?_
  obtain ⟨k, h⟩ := chk_s h
  have k2 := k
  obtain ⟨v1, σ2, k, h⟩ := bnd_s h
  obtain ⟨mσ2a, mσ2b⟩ := umJ5_isLatin1_aae02 k
  refine x_dcallU1 (pc := 11) C (x := yJ5_isLatin1_aae02) (mJ5_isLatin1_aae02 E l k) cl8 k2 ulJ5_83.1 ulJ5_83.2 uuJ5_isLatin1_aae02.1 uuJ5_isLatin1_aae02.2.1 usel uuJ5_isLatin1_aae02.2.2.1 uuJ5_isLatin1_aae02.2.2.2.1 uuJ5_isLatin1_aae02.2.2.2.2.1 uuJ5_isLatin1_aae02.2.2.2.2.2 rfl rfl (Nat.le_of_ble_eq_true rfl) ⟨(Nat.le_trans (Nat.le_of_ble_eq_true rfl) hR1), (Nat.le_trans (m := 40 * 5) (Nat.le_of_ble_eq_true rfl) hR2), by omega, by omega⟩ dJ5_append_3fe6f_11 ?_
  refine x_if_eq (pc := 14) (tgt := 45) C dJ5_append_3fe6f_14 (by decide) (fun q => ?_) (fun q => ?_)
  · rw [if_pos q] at h
    exact x_sub (x_wide (by omega) (by omega) (tJ5_append_3fe6f_45 C hr hR ⟨by omega, by omega⟩ h)) (xLe_s (xLe_s xLe_0))
  · rw [if_neg q] at h
    refine x_iload_n (pc := 17) C dJ5_append_3fe6f_17 rfl rfl ?_
    obtain ⟨v3, σ4, k, h⟩ := bnd_s h
    obtain ⟨mσ4a, mσ4b⟩ := umJ1_canEncode_fc78d k
    refine x_callS1 (pc := 18) C (mJ1_canEncode_fc78d E l k) cJ5_191 zJ1_canEncode_fc78d rfl rfl (Nat.le_of_ble_eq_true rfl) ⟨(Nat.le_trans (Nat.le_of_ble_eq_true rfl) hR1), (Nat.le_trans (m := 40 * 5) (Nat.le_of_ble_eq_true rfl) hR2), by omega, by omega⟩ dJ5_append_3fe6f_18 ?_
    refine x_if_eq (pc := 21) (tgt := 45) C dJ5_append_3fe6f_21 (by decide) (fun q => ?_) (fun q => ?_)
    · rw [if_pos q] at h
      exact x_sub (x_wide (by omega) (by omega) (tJ5_append_3fe6f_45 C hr hR ⟨by omega, by omega⟩ h)) (xLe_s (xLe_s xLe_0))
    · rw [if_neg q] at h
      refine x_aload_n (pc := 24) C dJ5_append_3fe6f_24 rfl rfl ?_
      obtain ⟨k, h⟩ := chk_s h
      have k2 := k
      obtain ⟨k, h⟩ := chk_s h
      refine x_dgetR (pc := 25) C fdJ5_15 rfl k2 k dJ5_append_3fe6f_25 ?_
      refine x_aload_n (pc := 28) C dJ5_append_3fe6f_28 rfl rfl ?_
      refine x_dup (pc := 29) C dJ5_append_3fe6f_29 rfl ?_
      obtain ⟨k, h⟩ := chk_s h
      refine x_dgetI (pc := 30) C fdJ5_79 rfl k dJ5_append_3fe6f_30 ?_
      refine x_dup_x1 (pc := 33) C dJ5_append_3fe6f_33 rfl rfl ?_
      refine x_iconst (v := 1) (pc := 34) C dJ5_append_3fe6f_34 (by decide) ?_
      refine x_iadd (pc := 35) C dJ5_append_3fe6f_35 ?_
      obtain ⟨k, h⟩ := chk_s h
      obtain ⟨σ5, e1, h⟩ := wlet_s h
      have mσ5 : gM σ5 = gM σ4 ∧ gZ σ5 = gZ σ4 := by rw [e1]; exact ⟨rfl, rfl⟩
      obtain ⟨mσ5a, mσ5b⟩ := mσ5
      refine x_dputI (pc := 36) C pdJ5_79 rfl k dJ5_append_3fe6f_36 (x_eq e1 ?_)
      refine x_iload_n (pc := 39) C dJ5_append_3fe6f_39 rfl rfl ?_
      refine x_i2b (pc := 40) C dJ5_append_3fe6f_40 ?_
      obtain ⟨k, h⟩ := chk_s h
      obtain ⟨σ6, e1, h⟩ := wlet_s h
      have mσ6 : gM σ6 = gM σ5 ∧ gZ σ6 = gZ σ5 := by rw [e1]; exact ⟨rfl, rfl⟩
      obtain ⟨mσ6a, mσ6b⟩ := mσ6
      refine x_dbast (pc := 41) C k dJ5_append_3fe6f_41 (x_eq e1 ?_)
      refine x_goto (tgt := 75) (pc := 42) C dJ5_append_3fe6f_42 (by decide) ?_
      refine x_aload_n (pc := 75) C dJ5_append_3fe6f_75 rfl rfl ?_
      cases h
      exact x_wide (by omega) (by omega) (x_aret C hr (Or.inl ⟨_, rfl⟩) dJ5_append_3fe6f_76)
def DJ5_append_3fe6f (l0 : Nat) (l1 : Int32) (σ : Sg) : Option (Nat × Sg) :=
  chk (ckP σ 8 3 l0) <|
  chk (ckP σ 8 0 l0) <|
  bnd (DJ5_ensureCapacityInternal_d00df l0 ((gI σ l0 3) + (1 : Int32)) σ) fun _ σ1 =>
  DJ5_append_3fe6f_10 l0 l1 σ1
theorem umJ5_append_3fe6f {l0 : Nat} {l1 : Int32} {σ : Sg} {r : Nat} {σ' : Sg} (h : DJ5_append_3fe6f l0 l1 σ = some (r, σ')) : Mo σ σ' := by
  unfold DJ5_append_3fe6f at h
  obtain ⟨k, h⟩ := chk_s h
  obtain ⟨k, h⟩ := chk_s h
  obtain ⟨u0, σ1, k, h⟩ := bnd_s h
  obtain ⟨mσ1a, mσ1b⟩ := umJ5_ensureCapacityInternal_d00df k
  obtain ⟨mz1, mz2⟩ := uJ5_append_3fe6f_10 h
  exact ⟨by omega, by omega⟩
theorem tqJ5_append_3fe6f {r : Nat} {σ' : Sg} (C : Cx E p s m args meth c RJ5 cJ5_append_3fe6f 2) (hr : meth.sig.returnType = (some (.object "java/lang/AbstractStringBuilder"))) (hR : RR R 5 (c0 + (gM σ' - gM σ0)) (z0 + (gZ σ' - gZ σ0))) {l0 : Nat} {l1 : Int32} {σ : Sg} (hm : Mo σ0 σ) (h : DJ5_append_3fe6f l0 l1 σ = some (r, σ')) : X E p l e R s m args below meth c (MQ below (QdX E (some (.ref (ad E r))) σ') args s (c0 + (gM σ' - gM σ0)) (z0 + (gZ σ' - gZ σ0)) (eF E)) 2 (c0 + (gM σ - gM σ0)) (z0 + (gZ σ - gZ σ0)) σ 0 [some (.ref (ad E l0)), some (.int l1)] [] := by
  obtain ⟨my1, my2⟩ := umJ5_append_3fe6f h
  unfold DJ5_append_3fe6f at h
  obtain ⟨hm1, hm2⟩ := hm
  obtain ⟨hR1, hR2, hR3, hR4⟩ := id hR
  refine x_aload_n (pc := 0) C dJ5_append_3fe6f_0 rfl rfl ?_
  refine x_aload_n (pc := 1) C dJ5_append_3fe6f_1 rfl rfl ?_
  obtain ⟨k, h⟩ := chk_s h
  refine x_dgetI (pc := 2) C fdJ5_79 rfl k dJ5_append_3fe6f_2 ?_
  refine x_iconst (v := 1) (pc := 5) C dJ5_append_3fe6f_5 (by decide) ?_
  refine x_iadd (pc := 6) C dJ5_append_3fe6f_6 ?_
  obtain ⟨k, h⟩ := chk_s h
  have k2 := k
  obtain ⟨u0, σ1, k, h⟩ := bnd_s h
  obtain ⟨mσ1a, mσ1b⟩ := umJ5_ensureCapacityInternal_d00df k
  obtain ⟨mz1, mz2⟩ := uJ5_append_3fe6f_10 h
  refine x_dcallU0 (pc := 7) C (x := yJ5_ensureCapacityInternal_d00df) (mJ5_ensureCapacityInternal_d00df E l k) cl8 k2 ulJ5_100.1 ulJ5_100.2 uuJ5_ensureCapacityInternal_d00df.1 uuJ5_ensureCapacityInternal_d00df.2.1 usel uuJ5_ensureCapacityInternal_d00df.2.2.1 uuJ5_ensureCapacityInternal_d00df.2.2.2.1 uuJ5_ensureCapacityInternal_d00df.2.2.2.2.1 uuJ5_ensureCapacityInternal_d00df.2.2.2.2.2 rfl rfl (Nat.le_of_ble_eq_true rfl) ⟨(Nat.le_trans (Nat.le_of_ble_eq_true rfl) hR1), (Nat.le_trans (m := 40 * 5) (Nat.le_of_ble_eq_true rfl) hR2), by omega, by omega⟩ dJ5_append_3fe6f_7 ?_
  exact x_sub (x_wide (by omega) (by omega) (tJ5_append_3fe6f_10 C hr hR ⟨by omega, by omega⟩ h)) (xLe_s (xLe_s xLe_0))
theorem tmJ5_append_3fe6f {r : Nat} {σ' : Sg} (C : Cx E p s m args meth c RJ5 cJ5_append_3fe6f 2) (hr : meth.sig.returnType = (some (.object "java/lang/AbstractStringBuilder"))) {l0 : Nat} {l1 : Int32} {σ : Sg} (h : DJ5_append_3fe6f l0 l1 σ = some (r, σ')) : X E p l e (rmA 5 (gM σ' - gM σ) (gZ σ' - gZ σ)) s m args below meth c (MQ below (QdX E (some (.ref (ad E r))) σ') args s (gM σ' - gM σ) (gZ σ' - gZ σ) (eF E)) 2 0 0 σ 0 [some (.ref (ad E l0)), some (.int l1)] [] := by
  have hR : RR (rmA 5 (gM σ' - gM σ) (gZ σ' - gZ σ)) 5 (0 + (gM σ' - gM σ)) (0 + (gZ σ' - gZ σ)) := ⟨Nat.le_refl _, Nat.le_refl _, Nat.le_of_eq (Nat.zero_add _), Nat.le_of_eq (Nat.zero_add _)⟩
  have hq := tqJ5_append_3fe6f (e := e) (l := l) (below := below) (c0 := 0) (z0 := 0) (σ0 := σ) C hr hR ⟨Nat.le_refl _, Nat.le_refl _⟩ h
  simp only [Nat.zero_add, Nat.sub_self] at hq
  exact hq
theorem mJ5_append_3fe6f (E : Ev) (l : Launch) {l0 : Nat} {l1 : Int32} {σ : Sg} {r : Nat} {σ' : Sg} (h : DJ5_append_3fe6f l0 l1 σ = some (r, σ')) : Mt E l yJ5_append_3fe6f cJ5_append_3fe6f 2 (some (.object "java/lang/AbstractStringBuilder")) 5 (gM σ' - gM σ) (gZ σ' - gZ σ) [.ref (ad E l0), .int l1] σ (some (.ref (ad E r))) σ' := by
  refine Mt.ofX (by decide) (Nat.le_of_ble_eq_true rfl) (L0 := [some (.ref (ad E l0)), some (.int l1)]) (xEntN_ok [.ref (ad E l0), .int l1] 2) (fun p e s m args below meth c C hr hn => ?_)
  refine (?_ : X E p l e (rmA 5 (gM σ' - gM σ) (gZ σ' - gZ σ)) s m args below meth c (MQ below (QdX E (some (.ref (ad E r))) σ') args s (gM σ' - gM σ) (gZ σ' - gZ σ) (eF E)) 2 0 0 σ 0 [some (.ref (ad E l0)), some (.int l1)] [])
  exact tmJ5_append_3fe6f C hr h
def DJ4_append_cf468_5 (l0 : Nat) (s0 : Nat) (σ : Sg) : Option (Nat × Sg) :=
  some (l0, σ)
theorem uJ4_append_cf468_5 {r : Nat} {σ' : Sg} {l0 : Nat} {s0 : Nat} {σ : Sg} (h : DJ4_append_cf468_5 l0 s0 σ = some (r, σ')) : Mo σ σ' := by
  unfold DJ4_append_cf468_5 at h
  cases h
  exact ⟨by omega, by omega⟩
theorem tJ4_append_cf468_5 {r : Nat} {σ' : Sg} (C : Cx E p s m args meth c RJ4 cJ4_append_cf468 2) (hr : meth.sig.returnType = (some (.object "java/lang/StringBuilder"))) (hR : RR R 6 (c0 + (gM σ' - gM σ0)) (z0 + (gZ σ' - gZ σ0))) {l0 : Nat} {s0 : Nat} {σ : Sg} (hm : Mo σ0 σ) (h : DJ4_append_cf468_5 l0 s0 σ = some (r, σ')) : X E p l e R s m args below meth c (MQ below (QdX E (some (.ref (ad E r))) σ') args s (c0 + (gM σ' - gM σ0)) (z0 + (gZ σ' - gZ σ0)) (eF E)) 2 (c0 + (gM σ - gM σ0)) (z0 + (gZ σ - gZ σ0)) σ 5 [some (.ref (ad E l0)), none] [.ref (ad E s0)] := by
  obtain ⟨my1, my2⟩ := uJ4_append_cf468_5 h
  unfold DJ4_append_cf468_5 at h
  obtain ⟨hm1, hm2⟩ := hm
  obtain ⟨hR1, hR2, hR3, hR4⟩ := id hR
  refine x_pop (pc := 5) C dJ4_append_cf468_5 rfl ?_
  refine x_aload_n (pc := 6) C dJ4_append_cf468_6 rfl rfl ?_
  cases h
  exact x_wide (by omega) (by omega) (x_aret C hr (Or.inl ⟨_, rfl⟩) dJ4_append_cf468_7)
def DJ4_append_cf468 (l0 : Nat) (l1 : Int32) (σ : Sg) : Option (Nat × Sg) :=
  chk (ckP σ 8 0 l0) <|
  bnd (DJ5_append_3fe6f l0 l1 σ) fun v1 σ2 =>
  DJ4_append_cf468_5 l0 v1 σ2
theorem umJ4_append_cf468 {l0 : Nat} {l1 : Int32} {σ : Sg} {r : Nat} {σ' : Sg} (h : DJ4_append_cf468 l0 l1 σ = some (r, σ')) : Mo σ σ' := by
  unfold DJ4_append_cf468 at h
  obtain ⟨k, h⟩ := chk_s h
  obtain ⟨v1, σ2, k, h⟩ := bnd_s h
  obtain ⟨mσ2a, mσ2b⟩ := umJ5_append_3fe6f k
  obtain ⟨mz1, mz2⟩ := uJ4_append_cf468_5 h
  exact ⟨by omega, by omega⟩
theorem tqJ4_append_cf468 {r : Nat} {σ' : Sg} (C : Cx E p s m args meth c RJ4 cJ4_append_cf468 2) (hr : meth.sig.returnType = (some (.object "java/lang/StringBuilder"))) (hR : RR R 6 (c0 + (gM σ' - gM σ0)) (z0 + (gZ σ' - gZ σ0))) {l0 : Nat} {l1 : Int32} {σ : Sg} (hm : Mo σ0 σ) (h : DJ4_append_cf468 l0 l1 σ = some (r, σ')) : X E p l e R s m args below meth c (MQ below (QdX E (some (.ref (ad E r))) σ') args s (c0 + (gM σ' - gM σ0)) (z0 + (gZ σ' - gZ σ0)) (eF E)) 2 (c0 + (gM σ - gM σ0)) (z0 + (gZ σ - gZ σ0)) σ 0 [some (.ref (ad E l0)), some (.int l1)] [] := by
  obtain ⟨my1, my2⟩ := umJ4_append_cf468 h
  unfold DJ4_append_cf468 at h
  obtain ⟨hm1, hm2⟩ := hm
  obtain ⟨hR1, hR2, hR3, hR4⟩ := id hR
  refine x_aload_n (pc := 0) C dJ4_append_cf468_0 rfl rfl ?_
  refine x_iload_n (pc := 1) C dJ4_append_cf468_1 rfl rfl ?_
  obtain ⟨k, h⟩ := chk_s h
  have k2 := k
  obtain ⟨v1, σ2, k, h⟩ := bnd_s h
  obtain ⟨mσ2a, mσ2b⟩ := umJ5_append_3fe6f k
  obtain ⟨mz1, mz2⟩ := uJ4_append_cf468_5 h
  refine x_dcallSU1 (pc := 2) C (mJ5_append_3fe6f E l k) cl8 k2 suJ4_50 rfl rfl (Nat.le_of_ble_eq_true rfl) ⟨(Nat.le_trans (Nat.le_of_ble_eq_true rfl) hR1), (Nat.le_trans (m := 40 * 6) (Nat.le_of_ble_eq_true rfl) hR2), by omega, by omega⟩ dJ4_append_cf468_2 ?_
  exact x_sub (x_wide (by omega) (by omega) (tJ4_append_cf468_5 C hr hR ⟨by omega, by omega⟩ h)) (xLe_s (xLe_n xLe_0))
theorem tmJ4_append_cf468 {r : Nat} {σ' : Sg} (C : Cx E p s m args meth c RJ4 cJ4_append_cf468 2) (hr : meth.sig.returnType = (some (.object "java/lang/StringBuilder"))) {l0 : Nat} {l1 : Int32} {σ : Sg} (h : DJ4_append_cf468 l0 l1 σ = some (r, σ')) : X E p l e (rmA 6 (gM σ' - gM σ) (gZ σ' - gZ σ)) s m args below meth c (MQ below (QdX E (some (.ref (ad E r))) σ') args s (gM σ' - gM σ) (gZ σ' - gZ σ) (eF E)) 2 0 0 σ 0 [some (.ref (ad E l0)), some (.int l1)] [] := by
  have hR : RR (rmA 6 (gM σ' - gM σ) (gZ σ' - gZ σ)) 6 (0 + (gM σ' - gM σ)) (0 + (gZ σ' - gZ σ)) := ⟨Nat.le_refl _, Nat.le_refl _, Nat.le_of_eq (Nat.zero_add _), Nat.le_of_eq (Nat.zero_add _)⟩
  have hq := tqJ4_append_cf468 (e := e) (l := l) (below := below) (c0 := 0) (z0 := 0) (σ0 := σ) C hr hR ⟨Nat.le_refl _, Nat.le_refl _⟩ h
  simp only [Nat.zero_add, Nat.sub_self] at hq
  exact hq
theorem mJ4_append_cf468 (E : Ev) (l : Launch) {l0 : Nat} {l1 : Int32} {σ : Sg} {r : Nat} {σ' : Sg} (h : DJ4_append_cf468 l0 l1 σ = some (r, σ')) : Mt E l yJ4_append_cf468 cJ4_append_cf468 2 (some (.object "java/lang/StringBuilder")) 6 (gM σ' - gM σ) (gZ σ' - gZ σ) [.ref (ad E l0), .int l1] σ (some (.ref (ad E r))) σ' := by
  refine Mt.ofX (by decide) (Nat.le_of_ble_eq_true rfl) (L0 := [some (.ref (ad E l0)), some (.int l1)]) (xEntN_ok [.ref (ad E l0), .int l1] 2) (fun p e s m args below meth c C hr hn => ?_)
  refine (?_ : X E p l e (rmA 6 (gM σ' - gM σ) (gZ σ' - gZ σ)) s m args below meth c (MQ below (QdX E (some (.ref (ad E r))) σ') args s (gM σ' - gM σ) (gZ σ' - gZ σ) (eF E)) 2 0 0 σ 0 [some (.ref (ad E l0)), some (.int l1)] [])
  exact tmJ4_append_cf468 C hr h
def DJ0_isLatin1_aae02_18 (s0 : Int32) (σ : Sg) : Option (Int32 × Sg) :=
  chk (ck01 s0) <|
  some (s0, σ)
theorem uJ0_isLatin1_aae02_18 {r : Int32} {σ' : Sg} {s0 : Int32} {σ : Sg} (h : DJ0_isLatin1_aae02_18 s0 σ = some (r, σ')) : Me σ σ' := by
  unfold DJ0_isLatin1_aae02_18 at h
  obtain ⟨kz, h⟩ := chk_s h
  cases h
  exact ⟨by omega, by omega⟩
theorem tJ0_isLatin1_aae02_18 {r : Int32} {σ' : Sg} (C : Cx E p s m args meth c RJ0 cJ0_isLatin1_aae02 1) (hr : meth.sig.returnType = (some .boolean)) {s0 : Int32} {σ : Sg} (h : DJ0_isLatin1_aae02_18 s0 σ = some (r, σ')) : Y E p l e (rmA 1 0 0) s m args below meth c (some (.int r)) σ' 0 0 1 0 0 σ 18 [none] [.int s0] := by
  unfold DJ0_isLatin1_aae02_18 at h
  obtain ⟨kz, h⟩ := chk_s h
  cases h
  exact x_zret C hr (nar_01 kz) dJ0_isLatin1_aae02_18
def DJ0_isLatin1_aae02_17 (σ : Sg) : Option (Int32 × Sg) :=
  DJ0_isLatin1_aae02_18 (0 : Int32) σ
theorem uJ0_isLatin1_aae02_17 {r : Int32} {σ' : Sg} {σ : Sg} (h : DJ0_isLatin1_aae02_17  σ = some (r, σ')) : Me σ σ' := by
  unfold DJ0_isLatin1_aae02_17 at h
  obtain ⟨mz1, mz2⟩ := uJ0_isLatin1_aae02_18 h
  exact ⟨by omega, by omega⟩
theorem tJ0_isLatin1_aae02_17 {r : Int32} {σ' : Sg} (C : Cx E p s m args meth c RJ0 cJ0_isLatin1_aae02 1) (hr : meth.sig.returnType = (some .boolean)) {σ : Sg} (h : DJ0_isLatin1_aae02_17  σ = some (r, σ')) : Y E p l e (rmA 1 0 0) s m args below meth c (some (.int r)) σ' 0 0 1 0 0 σ 17 [none] [] := by
  unfold DJ0_isLatin1_aae02_17 at h
  refine x_iconst (v := 0) (pc := 17) C dJ0_isLatin1_aae02_17 (by decide) ?_
  exact x_sub (tJ0_isLatin1_aae02_18 C hr h) (xLe_n xLe_0)
def DJ0_isLatin1_aae02 (l0 : Nat) (σ : Sg) : Option (Int32 × Sg) :=
  if (1 : Int32) = 0 then
    DJ0_isLatin1_aae02_17 σ
  else
    chk (ckP σ 7 1 l0) <|
    if (gI σ l0 1) = 0 then
      DJ0_isLatin1_aae02_18 (1 : Int32) σ
    else
      DJ0_isLatin1_aae02_17 σ
theorem umJ0_isLatin1_aae02 {l0 : Nat} {σ : Sg} {r : Int32} {σ' : Sg} (h : DJ0_isLatin1_aae02 l0 σ = some (r, σ')) : Me σ σ' := by
  unfold DJ0_isLatin1_aae02 at h
  by_cases q : (1 : Int32) = 0
  · rw [if_pos q] at h
    obtain ⟨mz1, mz2⟩ := uJ0_isLatin1_aae02_17 h
    exact ⟨by omega, by omega⟩
  · rw [if_neg q] at h
    obtain ⟨k, h⟩ := chk_s h
    by_cases q : (gI σ l0 1) = 0
    · rw [if_pos q] at h
      obtain ⟨mz1, mz2⟩ := uJ0_isLatin1_aae02_18 h
      exact ⟨by omega, by omega⟩
    · rw [if_neg q] at h
      obtain ⟨mz1, mz2⟩ := uJ0_isLatin1_aae02_17 h
      exact ⟨by omega, by omega⟩
theorem mJ0_isLatin1_aae02 (E : Ev) (l : Launch) {l0 : Nat} {σ : Sg} {r : Int32} {σ' : Sg} (h : DJ0_isLatin1_aae02 l0 σ = some (r, σ')) : Mt E l yJ0_isLatin1_aae02 cJ0_isLatin1_aae02 1 (some .boolean) 1 0 0 [.ref (ad E l0)] σ (some (.int r)) σ' := by
  refine Mt.ofX (by decide) (Nat.le_of_ble_eq_true rfl) (L0 := [some (.ref (ad E l0))]) (xEntN_ok [.ref (ad E l0)] 1) (fun p e s m args below meth c C hr hn => ?_)
  unfold DJ0_isLatin1_aae02 at h
  refine x_getC (pc := 0) C gJ0_38 dJ0_isLatin1_aae02_0 ?_
  refine x_if_eq (pc := 3) (tgt := 17) C dJ0_isLatin1_aae02_3 (by decide) (fun q => ?_) (fun q => ?_)
  · rw [if_pos q] at h
    exact x_sub (tJ0_isLatin1_aae02_17 C hr h) (xLe_n xLe_0)
  · rw [if_neg q] at h
    refine x_aload_n (pc := 6) C dJ0_isLatin1_aae02_6 rfl rfl ?_
    obtain ⟨k, h⟩ := chk_s h
    refine x_dgetI (pc := 7) C fdJ0_15 rfl k dJ0_isLatin1_aae02_7 ?_
    refine x_if_ne (pc := 10) (tgt := 17) C dJ0_isLatin1_aae02_10 (by decide) (fun q => ?_) (fun q => ?_)
    · rw [if_pos q] at h
      refine x_iconst (v := 1) (pc := 13) C dJ0_isLatin1_aae02_13 (by decide) ?_
      refine x_goto (tgt := 18) (pc := 14) C dJ0_isLatin1_aae02_14 (by decide) ?_
      exact x_sub (tJ0_isLatin1_aae02_18 C hr h) (xLe_n xLe_0)
    · rw [if_neg q] at h
      exact x_sub (tJ0_isLatin1_aae02_17 C hr h) (xLe_n xLe_0)
def DJ1_charAt_3b067 (l0 : Nat) (l1 : Int32) (σ : Sg) : Option (Int32 × Sg) :=
  chk (ckQ σ l0) <|
  bnd (DJ0_checkIndex_df160 l1 (nI (gS σ l0).2) σ) fun _ σ1 =>
  chk (ckA σ1 6 l0 l1) <|
  chk (ckC ((((aI σ1 l0 l1.toNatClampNeg) &&& (255 : Int32)).toUInt32 % 65536).toInt32)) <|
  some ((((aI σ1 l0 l1.toNatClampNeg) &&& (255 : Int32)).toUInt32 % 65536).toInt32, σ1)
theorem umJ1_charAt_3b067 {l0 : Nat} {l1 : Int32} {σ : Sg} {r : Int32} {σ' : Sg} (h : DJ1_charAt_3b067 l0 l1 σ = some (r, σ')) : Me σ σ' := by
  unfold DJ1_charAt_3b067 at h
  obtain ⟨k, h⟩ := chk_s h
  obtain ⟨u0, σ1, k, h⟩ := bnd_s h
  obtain ⟨mσ1a, mσ1b⟩ := umJ0_checkIndex_df160 k
  obtain ⟨k, h⟩ := chk_s h
  obtain ⟨kz, h⟩ := chk_s h
  cases h
  exact ⟨by omega, by omega⟩
theorem mJ1_charAt_3b067 (E : Ev) (l : Launch) {l0 : Nat} {l1 : Int32} {σ : Sg} {r : Int32} {σ' : Sg} (h : DJ1_charAt_3b067 l0 l1 σ = some (r, σ')) : Mt E l yJ1_charAt_3b067 cJ1_charAt_3b067 2 (some .char) 3 0 0 [.ref (ad E l0), .int l1] σ (some (.int r)) σ' := by
  refine Mt.ofX (by decide) (Nat.le_of_ble_eq_true rfl) (L0 := [some (.ref (ad E l0)), some (.int l1)]) (xEntN_ok [.ref (ad E l0), .int l1] 2) (fun p e s m args below meth c C hr hn => ?_)
  unfold DJ1_charAt_3b067 at h
  refine x_iload_n (pc := 0) C dJ1_charAt_3b067_0 rfl rfl ?_
  refine x_aload_n (pc := 1) C dJ1_charAt_3b067_1 rfl rfl ?_
  obtain ⟨k, h⟩ := chk_s h
  refine x_dalen (pc := 2) C k dJ1_charAt_3b067_2 ?_
  obtain ⟨u0, σ1, k, h⟩ := bnd_s h
  obtain ⟨mσ1a, mσ1b⟩ := umJ0_checkIndex_df160 k
  refine x_callS0 (pc := 3) C (mJ0_checkIndex_df160 E l k) cJ1_9 zJ0_checkIndex_df160 rfl rfl (Nat.le_of_ble_eq_true rfl) ⟨Nat.le_of_ble_eq_true rfl, Nat.le_of_ble_eq_true rfl, Nat.le_of_ble_eq_true rfl, Nat.le_of_ble_eq_true rfl⟩ dJ1_charAt_3b067_3 ?_
  refine x_aload_n (pc := 6) C dJ1_charAt_3b067_6 rfl rfl ?_
  refine x_iload_n (pc := 7) C dJ1_charAt_3b067_7 rfl rfl ?_
  obtain ⟨k, h⟩ := chk_s h
  refine x_dbald (pc := 8) C k dJ1_charAt_3b067_8 ?_
  refine x_sipush (v := 255) (pc := 9) C dJ1_charAt_3b067_9 (by decide) ?_
  refine x_iand (pc := 12) C dJ1_charAt_3b067_12 ?_
  refine x_i2c (pc := 13) C dJ1_charAt_3b067_13 ?_
  obtain ⟨kz, h⟩ := chk_s h
  cases h
  exact x_zret C hr (nar_C kz) dJ1_charAt_3b067_14
def DJ0_charAt_5068e (l0 : Nat) (l1 : Int32) (σ : Sg) : Option (Int32 × Sg) :=
  chk (ckP σ 7 0 l0) <|
  bnd (DJ0_isLatin1_aae02 l0 σ) fun v1 σ2 =>
  if v1 = 0 then
    chk (ckP σ2 7 0 l0) <|
    chk (ckV (gR σ2 l0 0)) <|
    none
  else
    chk (ckP σ2 7 0 l0) <|
    chk (ckV (gR σ2 l0 0)) <|
    bnd (DJ1_charAt_3b067 (gR σ2 l0 0) l1 σ2) fun v3 σ4 =>
    chk (ckC v3) <|
    some (v3, σ4)
theorem umJ0_charAt_5068e {l0 : Nat} {l1 : Int32} {σ : Sg} {r : Int32} {σ' : Sg} (h : DJ0_charAt_5068e l0 l1 σ = some (r, σ')) : Me σ σ' := by
  unfold DJ0_charAt_5068e at h
  obtain ⟨k, h⟩ := chk_s h
  obtain ⟨v1, σ2, k, h⟩ := bnd_s h
  obtain ⟨mσ2a, mσ2b⟩ := umJ0_isLatin1_aae02 k
  by_cases q : v1 = 0
  · rw [if_pos q] at h
    obtain ⟨k, h⟩ := chk_s h
    obtain ⟨k, h⟩ := chk_s h
    cases h
  · rw [if_neg q] at h
    obtain ⟨k, h⟩ := chk_s h
    obtain ⟨k, h⟩ := chk_s h
    obtain ⟨v3, σ4, k, h⟩ := bnd_s h
    obtain ⟨mσ4a, mσ4b⟩ := umJ1_charAt_3b067 k
    obtain ⟨kz, h⟩ := chk_s h
    cases h
    exact ⟨by omega, by omega⟩
theorem mJ0_charAt_5068e (E : Ev) (l : Launch) {l0 : Nat} {l1 : Int32} {σ : Sg} {r : Int32} {σ' : Sg} (h : DJ0_charAt_5068e l0 l1 σ = some (r, σ')) : Mt E l yJ0_charAt_5068e cJ0_charAt_5068e 2 (some .char) 4 0 0 [.ref (ad E l0), .int l1] σ (some (.int r)) σ' := by
  refine Mt.ofX (by decide) (Nat.le_of_ble_eq_true rfl) (L0 := [some (.ref (ad E l0)), some (.int l1)]) (xEntN_ok [.ref (ad E l0), .int l1] 2) (fun p e s m args below meth c C hr hn => ?_)
  unfold DJ0_charAt_5068e at h
  refine x_aload_n (pc := 0) C dJ0_charAt_5068e_0 rfl rfl ?_
  obtain ⟨k, h⟩ := chk_s h
  have k2 := k
  obtain ⟨v1, σ2, k, h⟩ := bnd_s h
  obtain ⟨mσ2a, mσ2b⟩ := umJ0_isLatin1_aae02 k
  refine x_dcallV1 (pc := 1) C (mJ0_isLatin1_aae02 E l k) cl7 k2 cJ0_492 nJ0_isLatin1_aae02 sJ0_isLatin1_aae02 rfl rfl (Nat.le_of_ble_eq_true rfl) ⟨Nat.le_of_ble_eq_true rfl, Nat.le_of_ble_eq_true rfl, Nat.le_of_ble_eq_true rfl, Nat.le_of_ble_eq_true rfl⟩ dJ0_charAt_5068e_1 ?_
  refine x_if_eq (pc := 4) (tgt := 16) C dJ0_charAt_5068e_4 (by decide) (fun q => ?_) (fun q => ?_)
  · rw [if_pos q] at h
    refine x_aload_n (pc := 16) C dJ0_charAt_5068e_16 rfl rfl ?_
    obtain ⟨k, h⟩ := chk_s h
    have k2 := k
    obtain ⟨k, h⟩ := chk_s h
    refine x_dgetR (pc := 17) C fdJ0_9 rfl k2 k dJ0_charAt_5068e_17 ?_
    refine x_iload_n (pc := 20) C dJ0_charAt_5068e_20 rfl rfl ?_
    cases h
  · rw [if_neg q] at h
    refine x_aload_n (pc := 7) C dJ0_charAt_5068e_7 rfl rfl ?_
    obtain ⟨k, h⟩ := chk_s h
    have k2 := k
    obtain ⟨k, h⟩ := chk_s h
    refine x_dgetR (pc := 8) C fdJ0_9 rfl k2 k dJ0_charAt_5068e_8 ?_
    refine x_iload_n (pc := 11) C dJ0_charAt_5068e_11 rfl rfl ?_
    obtain ⟨v3, σ4, k, h⟩ := bnd_s h
    obtain ⟨mσ4a, mσ4b⟩ := umJ1_charAt_3b067 k
    refine x_callS1 (pc := 12) C (mJ1_charAt_3b067 E l k) cJ0_495 zJ1_charAt_3b067 rfl rfl (Nat.le_of_ble_eq_true rfl) ⟨Nat.le_of_ble_eq_true rfl, Nat.le_of_ble_eq_true rfl, Nat.le_of_ble_eq_true rfl, Nat.le_of_ble_eq_true rfl⟩ dJ0_charAt_5068e_12 ?_
    obtain ⟨kz, h⟩ := chk_s h
    cases h
    exact x_zret C hr (nar_C kz) dJ0_charAt_5068e_15
end
